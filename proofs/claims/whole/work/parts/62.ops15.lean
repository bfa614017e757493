/-! ===== odds ===== -/
def QL (fc fm : fk_T → Option (Int64 × fk_T)) (σ : fk_T) : Prop := ∃ (r : Int64) (σ1 σ2 : fk_T), fc σ = some (r, σ1) ∧ fm σ1 = some (r, σ2) ∧ Inv σ2
theorem QL.find {σ : fk_T} (h : Inv σ) {fc fm : fk_T → Option (Int64 × fk_T)} (h1 : fc σ = (F_X4_found 0 σ).bind (fun q => some (q.1.toInt64, q.2))) (h2 : fm (f25 σ 0) = (F_X5_finds 0 (f25 σ 0)).bind (fun q => some (q.1.toInt64, q.2))) : QL fc fm σ :=
  ⟨_, _, _, h1.trans (by rw [show F_X4_found 0 σ = _ from c25 σ (k := 0) (by omega)]; rfl), h2.trans (by rw [show F_X5_finds 0 (f25 σ 0) = _ from c31 (f25 σ 0) (k := 0) (by omega)]; rfl), h.find (by omega)⟩
def stN (G : Nat → Int32) (a b : Nat) : Nat → Nat → Nat → Nat
  | 0, _, s => s
  | m + 1, v, s => stN G a b m (v + 1) (if flopG (riseG G (nI v) a b) (leanG G a b) = true then s else s + 1)
theorem stN_s (G : Nat → Int32) (a b m v s : Nat) : stN G a b (m + 1) v s = stN G a b m (v + 1) (if flopG (riseG G (nI v) a b) (leanG G a b) = true then s else s + 1) := rfl
theorem stN_le (G : Nat → Int32) (a b : Nat) : ∀ (m v s : Nat), stN G a b m v s ≤ s + m
  | 0, _, s => by unfold stN; omega
  | m + 1, v, s => by
    rw [stN_s]
    have := stN_le G a b m (v + 1) (if flopG (riseG G (nI v) a b) (leanG G a b) = true then s else s + 1)
    split at this <;> (split <;> omega)
theorem C_stL {c a b : Nat} (ha : a < 8) (hb8 : b < 8) {σ : fk_T} {G : Nat → Int32} (h : CP c σ G) {k : Int32 → Int32 → Int32 → Int32 → Int32 → fk_T → Option (Int32 × fk_T)} : ∀ (m v fu s : Nat), v + m = 21 → m < fu → L_X0_claysThatStand_13 c fu (nI a) (nI b) (leanG G a b) (nI s) (nI v) σ k = k (nI a) (nI b) (leanG G a b) (nI (stN G a b m v s)) (nI 21) σ
  | m, v, 0, s, _, hf => by omega
  | 0, v, fu + 1, s, hv, _ => by
    have : v = 21 := by omega
    subst this
    rw [L_X0_claysThatStand_13, if_pos (by decide)]
    rfl
  | m + 1, v, fu + 1, s, hv, hf => by
    rw [L_X0_claysThatStand_13, if_neg (by rw [i_lt, nI_tI (by omega), l20]; omega), C_rises h rfl rfl ha hb8, bS]
    dsimp only
    rw [C_wouldFlop, bS, stN_s]
    dsimp only
    rw [fB, fB, fB, nI_1, nI_1, C_stL ha hb8 h m (v + 1) fu (s + 1) (by omega) (by omega), C_stL ha hb8 h m (v + 1) fu s (by omega) (by omega)]
    cases flopG (riseG G (nI v) a b) (leanG G a b)
    · rw [if_pos (show fk_b false = 0 from rfl), if_neg (by decide)]
    · rw [if_neg fbT, if_pos rfl]
theorem push_3 (G : Nat → Int32) (c : Int32) (p : Nat) : pushG (upd G 3 c) p = pushG G p := by
  unfold pushG
  rw [u_ne _ _ (show 13 + p ≠ 3 by omega), u_ne _ _ (show 21 + p ≠ 3 by omega), u_ne _ _ (show 29 + p ≠ 3 by omega), u_ne _ _ (show 37 + p ≠ 3 by omega)]
theorem lean_3 (G : Nat → Int32) (c : Int32) (a b : Nat) : leanG (upd G 3 c) a b = leanG G a b := by unfold leanG; rw [push_3, push_3]
theorem rise_3 (G : Nat → Int32) (c d : Int32) (a b : Nat) : riseG (upd G 3 c) d a b = riseG G d a b := by unfold riseG; rw [u_ne _ _ (by omega)]
theorem upd_upd (G : Nat → Int32) (k : Nat) (x y : Int32) : upd (upd G k x) k y = upd G k y := by
  funext j
  by_cases e : j = k
  · subst e; rw [u_self, u_self]
  · rw [u_ne _ _ e, u_ne _ _ e, u_ne _ _ e]
theorem M_stL {a b : Nat} (ha : a < 8) (hb8 : b < 8) {G : Nat → Int32} (hw : WF G) {x3 x4 x5 : Int32} {k : Int32 → Int32 → Int32 → Int32 → Int32 → Int32 → Int32 → fk_T → Option (Int64 × fk_T)} : ∀ (m v fu s : Nat) {σ : fk_T} {c : Int32}, σ.1 27 = upd G 3 c → v + m = 21 → m < fu → ∃ σ' c', L_X5_odds_53 fu (nI a) (nI b) x3 x4 x5 (nI s) (nI v) σ k = k (nI a) (nI b) x3 x4 x5 (nI (stN G a b m v s)) (nI 21) σ' ∧ σ'.1 27 = upd G 3 c' ∧ ∀ r, r ≠ 27 → σ'.1 r = σ.1 r
  | m, v, 0, s, _, _, _, _, hf => by omega
  | 0, v, fu + 1, s, σ, c, hc, hv, _ => by
    have : v = 21 := by omega
    subst this
    refine ⟨σ, c, ?_, hc, fun _ _ => rfl⟩
    rw [L_X5_odds_53, if_pos (by decide)]
    rfl
  | m + 1, v, fu + 1, s, σ, c, hc, hv, hf => by
    have hw1 : WF (upd G 3 (nI v)) := hw.set (k := 3) (by omega) (by omega) (fun _ _ => by rw [show hb 3 = 20 from rfl, nI_tI (by omega)]; omega)
    have e27 : (fk_w σ 27 (upd (σ.1 27) 3 (nI v))).1 27 = upd G 3 (nI v) := by rw [w_self, hc, upd_upd]
    have fl : F_X5_isFlop (nI a) (nI b) (fk_w σ 27 (upd (σ.1 27) 3 (nI v))) = some (flopG (riseG G (nI v) a b) (leanG G a b), fk_w σ 27 (upd (σ.1 27) 3 (nI v))) := by
      rw [M_isFlop (by rw [e27]; exact hw1) rfl rfl ha hb8, e27, u_self, rise_3, lean_3]
    have ex := fun s' => M_stL ha hb8 hw (x3 := x3) (x4 := x4) (x5 := x5) (k := k) m (v + 1) fu s' e27 (by omega) (by omega)
    have u1 : L_X5_odds_53 (fu + 1) (nI a) (nI b) x3 x4 x5 (nI s) (nI v) σ k = L_X5_odds_53 fu (nI a) (nI b) x3 x4 x5 (nI (if flopG (riseG G (nI v) a b) (leanG G a b) = true then s else s + 1)) (nI (v + 1)) (fk_w σ 27 (upd (σ.1 27) 3 (nI v))) k := by
      rw [L_X5_odds_53, if_neg (by rw [i_lt, nI_tI (by omega), l20]; omega), fS (j := 3) (nlit 3) (by omega) (by omega), fl, bS]
      dsimp only
      rw [fB, fB, fB, fB, nI_1, nI_1, Int32.add_zero]
      cases flopG (riseG G (nI v) a b) (leanG G a b)
      · rw [if_pos (show fk_b false = 0 from rfl), if_neg (by decide)]
      · rw [if_neg fbT, if_pos rfl]
    obtain ⟨σ', c', a1, a2, a3⟩ := ex (if flopG (riseG G (nI v) a b) (leanG G a b) = true then s else s + 1)
    refine ⟨σ', c', ?_, a2, fun r hr => by rw [a3 r hr, w_ne _ _ hr]⟩
    rw [u1, a1, stN_s]
def cdN (g : Nat) : Nat → Nat
  | 0 => 1
  | 1 => 1
  | d + 2 => if g % (d + 2) = 0 ∧ 20 % (d + 2) = 0 then d + 2 else cdN g (d + 1)
def euN : Nat → Nat → Nat → Nat
  | 0, a, _ => a
  | f + 1, a, b => if b = 0 then a else euN f b (a % b)
theorem cd_eu : ∀ g : Fin 21, cdN g.val 20 = euN 20 g.val 20 ∧ 1 ≤ cdN g.val 20 ∧ cdN g.val 20 ≤ 20 := by decide +kernel

