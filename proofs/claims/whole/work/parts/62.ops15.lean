/-! ===== odds ===== -/
def QL (fc fm : fk_T → Option (Int64 × fk_T)) (σ : fk_T) : Prop := ∃ (r : Int64) (σ1 σ2 : fk_T), fc σ = some (r, σ1) ∧ fm σ1 = some (r, σ2) ∧ Inv σ2
theorem QL.find {σ : fk_T} (h : Inv σ) {fc fm : fk_T → Option (Int64 × fk_T)} (h1 : fc σ = (F_X4_found 0 σ).bind (fun q => some (q.1.toInt64, q.2))) (h2 : fm (f25 σ 0) = (F_X5_finds 0 (f25 σ 0)).bind (fun q => some (q.1.toInt64, q.2))) : QL fc fm σ :=
  ⟨_, _, _, h1.trans (by rw [show F_X4_found 0 σ = _ from c25 σ (k := 0) (by omega)]; rfl), h2.trans (by rw [show F_X5_finds 0 (f25 σ 0) = _ from c31 (f25 σ 0) (k := 0) (by omega)]; rfl), h.find (by omega)⟩
def stN (G : Nat → Int32) (a b : Nat) : Nat → Nat → Nat → Nat
  | 0, _, s => s
  | m + 1, v, s => stN G a b m (v + 1) (if flopG (riseG G (nI v) a b) (leanG G a b) = true then s else s + 1)
theorem stN_s (G : Nat → Int32) (a b m v s : Nat) : stN G a b (m + 1) v s = stN G a b m (v + 1) (if flopG (riseG G (nI v) a b) (leanG G a b) = true then s else s + 1) := rfl
theorem stN_le (G : Nat → Int32) (a b : Nat) : ∀ (m v s : Nat), stN G a b m v s ≤ s + m
  | 0, _, s => by unfold stN; omega
  | m + 1, v, s => by
    rw [stN_s]
    split
    · have := stN_le G a b m (v + 1) s
      omega
    · have := stN_le G a b m (v + 1) (s + 1)
      omega
theorem C_stL {c a b : Nat} (ha : a < 8) (hb8 : b < 8) {σ : fk_T} {G : Nat → Int32} (h : CP c σ G) {k : Int32 → Int32 → Int32 → Int32 → Int32 → fk_T → Option (Int32 × fk_T)} : ∀ (m v fu s : Nat), v + m = 21 → m < fu → L_X0_claysThatStand_13 c fu (nI a) (nI b) (leanG G a b) (nI s) (nI v) σ k = k (nI a) (nI b) (leanG G a b) (nI (stN G a b m v s)) (nI 21) σ
  | m, v, 0, s, _, hf => by omega
  | 0, v, fu + 1, s, hv, _ => by
    have : v = 21 := by omega
    subst this
    rw [L_X0_claysThatStand_13, if_pos (by decide)]
    rfl
  | m + 1, v, fu + 1, s, hv, hf => by
    rw [L_X0_claysThatStand_13, if_neg (by rw [i_lt, nI_tI (by omega), l20]; omega), C_rises h rfl rfl ha hb8, bS]
    dsimp only
    rw [C_wouldFlop, bS, stN_s]
    dsimp only
    cases flopG (riseG G (nI v) a b) (leanG G a b)
    · rw [if_pos (show fk_b false = 0 from rfl), if_neg (by decide), fB, fB, nI_1, nI_1, C_stL ha hb8 h m (v + 1) fu (s + 1) (by omega) (by omega)]
    · rw [if_neg fbT, if_pos rfl, fB, nI_1, C_stL ha hb8 h m (v + 1) fu s (by omega) (by omega)]
theorem push_3 (G : Nat → Int32) (c : Int32) (p : Nat) : pushG (upd G 3 c) p = pushG G p := by
  unfold pushG
  rw [u_ne _ _ (show 13 + p ≠ 3 by omega), u_ne _ _ (show 21 + p ≠ 3 by omega), u_ne _ _ (show 29 + p ≠ 3 by omega), u_ne _ _ (show 37 + p ≠ 3 by omega)]
theorem lean_3 (G : Nat → Int32) (c : Int32) (a b : Nat) : leanG (upd G 3 c) a b = leanG G a b := by unfold leanG; rw [push_3, push_3]
theorem rise_3 (G : Nat → Int32) (c d : Int32) (a b : Nat) : riseG (upd G 3 c) d a b = riseG G d a b := by unfold riseG; rw [u_ne _ _ (by omega)]
theorem upd_upd (G : Nat → Int32) (k : Nat) (x y : Int32) : upd (upd G k x) k y = upd G k y := by
  funext j
  by_cases e : j = k
  · subst e; rw [u_self, u_self]
  · rw [u_ne _ _ e, u_ne _ _ e, u_ne _ _ e]
theorem M_stL {a b : Nat} (ha : a < 8) (hb8 : b < 8) {G : Nat → Int32} (hw : WF G) {x3 x4 x5 : Int32} {k : Int32 → Int32 → Int32 → Int32 → Int32 → Int32 → Int32 → fk_T → Option (Int64 × fk_T)} : ∀ (m v fu s : Nat) {σ : fk_T} {c : Int32}, σ.1 27 = upd G 3 c → v + m = 21 → m < fu → ∃ σ' c', L_X5_odds_53 fu (nI a) (nI b) x3 x4 x5 (nI s) (nI v) σ k = k (nI a) (nI b) x3 x4 x5 (nI (stN G a b m v s)) (nI 21) σ' ∧ σ'.1 27 = upd G 3 c' ∧ ∀ r, r ≠ 27 → σ'.1 r = σ.1 r
  | m, v, 0, s, _, _, _, _, hf => by omega
  | 0, v, fu + 1, s, σ, c, hc, hv, _ => by
    have : v = 21 := by omega
    subst this
    refine ⟨σ, c, ?_, hc, fun _ _ => rfl⟩
    rw [L_X5_odds_53, if_pos (by decide)]
    rfl
  | m + 1, v, fu + 1, s, σ, c, hc, hv, hf => by
    have hw1 : WF (upd G 3 (nI v)) := hw.set (k := 3) (by omega) (by omega) (fun _ _ => by rw [show hb 3 = 20 from rfl, nI_tI (by omega)]; omega)
    have e27 : (fk_w σ 27 (upd (σ.1 27) 3 (nI v))).1 27 = upd G 3 (nI v) := by rw [w_self, hc, upd_upd]
    have fl : F_X5_isFlop (nI a) (nI b) (fk_w σ 27 (upd (σ.1 27) 3 (nI v))) = some (flopG (riseG G (nI v) a b) (leanG G a b), fk_w σ 27 (upd (σ.1 27) 3 (nI v))) := by
      rw [M_isFlop (by rw [e27]; exact hw1) rfl rfl ha hb8, e27, u_self, rise_3, lean_3]
    have ex := fun s' => M_stL ha hb8 hw (x3 := x3) (x4 := x4) (x5 := x5) (k := k) m (v + 1) fu s' e27 (by omega) (by omega)
    have u1 : L_X5_odds_53 (fu + 1) (nI a) (nI b) x3 x4 x5 (nI s) (nI v) σ k = L_X5_odds_53 fu (nI a) (nI b) x3 x4 x5 (nI (if flopG (riseG G (nI v) a b) (leanG G a b) = true then s else s + 1)) (nI (v + 1)) (fk_w σ 27 (upd (σ.1 27) 3 (nI v))) k := by
      rw [L_X5_odds_53, if_neg (by rw [i_lt, nI_tI (by omega), l20]; omega), fS (j := 3) (nlit 3) (by omega) (by omega), fl, bS]
      dsimp only
      cases flopG (riseG G (nI v) a b) (leanG G a b)
      · rw [if_pos (show fk_b false = 0 from rfl), if_neg (by decide), fB, fB, nI_1, nI_1]
      · rw [if_neg fbT, if_pos rfl, fB, fB, nI_1, Int32.add_zero]
    obtain ⟨σ', c', a1, a2, a3⟩ := ex (if flopG (riseG G (nI v) a b) (leanG G a b) = true then s else s + 1)
    refine ⟨σ', c', ?_, a2, fun r hr => by rw [a3 r hr, w_ne _ _ hr]⟩
    rw [u1, a1, stN_s]
def cdN (g : Nat) : Nat → Nat
  | 0 => 1
  | 1 => 1
  | d + 2 => if g % (d + 2) = 0 ∧ 20 % (d + 2) = 0 then d + 2 else cdN g (d + 1)
def euN : Nat → Nat → Nat → Nat
  | 0, a, _ => a
  | f + 1, a, b => if b = 0 then a else euN f b (a % b)
theorem cd_eu : ∀ g : Fin 21, cdN g.val 20 = euN 20 g.val 20 ∧ 1 ≤ cdN g.val 20 ∧ cdN g.val 20 ≤ 20 := by decide +kernel

theorem fD {α : Type} {y : Int32} {k : Option α} (h : ¬ y = 0) : fk_D y k = k := if_neg h
theorem nI_div {g d : Nat} (hg : g < 2147483648) (hd : 0 < d) (hd2 : d < 2147483648) : nI g / nI d = nI (g / d) := by
  have := Nat.div_le_self g d
  rw [i_eq, ti_div hd hd2 (by rw [nI_tI hg]; omega), nI_tI hg, nI_tI (by omega)]
  rfl
theorem nI_mod {g d : Nat} (hg : g < 2147483648) (hd : 0 < d) (hd2 : d < 2147483648) : nI g - nI g / nI d * nI d = nI (g % d) := by
  have h1 := Nat.div_add_mod g d
  have h2 := Nat.mul_comm d (g / d)
  rw [nI_div hg hd hd2, pk_mul, i_eq, ti_sub (by rw [nI_tI hg, nI_tI (by omega)]; omega) (by rw [nI_tI hg, nI_tI (by omega)]; omega), nI_tI hg, nI_tI (by omega), nI_tI (by omega)]
  omega
theorem nI_prd {d : Nat} (h : d + 1 < 2147483648) : nI (d + 1) + (-1) = nI d := by
  rw [i_eq, ti_add (by rw [nI_tI h, lim1]; omega) (by rw [nI_tI h, lim1]; omega), nI_tI h, lim1, nI_tI (by omega)]
  omega
theorem nIz {d : Nat} (h : d < 2147483648) (h0 : d ≠ 0) : ¬ nI d = 0 := by rw [i_eq, nI_tI h, li0]; omega
theorem cdN_s (g d : Nat) : cdN g (d + 2) = if g % (d + 2) = 0 ∧ 20 % (d + 2) = 0 then d + 2 else cdN g (d + 1) := rfl
theorem C_cdL {g : Nat} (hg : g ≤ 20) {σ : fk_T} : ∀ (d fu : Nat), d ≤ 20 → d < fu → L_X4_commonDivisor_6 fu (nI g) (nI 20) (nI d) σ (fun _ _ _ s => some (1, s)) = some (nI (cdN g d), σ)
  | d, 0, _, hf => by omega
  | 0, fu + 1, _, _ => by rw [L_X4_commonDivisor_6, if_pos (by decide)]; rfl
  | 1, fu + 1, _, _ => by rw [L_X4_commonDivisor_6, if_pos (by decide)]; rfl
  | d + 2, fu + 1, hd, hf => by
    have ih := C_cdL hg (σ := σ) (d + 1) fu (by omega) (by omega)
    have hz : ¬ nI (d + 2) = 0 := nIz (by omega) (by omega)
    have := Nat.mod_lt g (show d + 2 > 0 by omega)
    have := Nat.mod_lt 20 (show d + 2 > 0 by omega)
    rw [L_X4_commonDivisor_6, if_neg (by rw [i_le, nI_tI (by omega), li1]; omega), fD hz, fD hz, nI_mod (by omega) (by omega) (by omega), nI_mod (by omega) (by omega) (by omega), fB, nI_prd (by omega), ih, cdN_s]
    by_cases a : g % (d + 2) = 0
    · rw [if_pos (by rw [a]; rfl)]
      by_cases b : 20 % (d + 2) = 0
      · rw [if_pos (by rw [b]; rfl), if_pos ⟨a, b⟩]
      · rw [if_neg (nIz (by omega) b), if_neg (fun z => b z.2)]
    · rw [if_neg (nIz (by omega) a), if_neg (fun z => a z.1)]
theorem C_cd {g : Nat} (hg : g ≤ 20) (σ : fk_T) : F_X4_commonDivisor (nI g) 20 σ = some (nI (cdN g 20), σ) := by
  unfold F_X4_commonDivisor
  have e : fk_max (nI g) 20 = nI 20 := by
    unfold fk_max
    by_cases h : nI g < 20
    · rw [if_pos h]; rfl
    · rw [if_neg h]
      rw [i_lt, nI_tI (by omega), l20] at h
      rw [show g = 20 by omega]
  rw [fB, e]
  exact C_cdL hg 20 fk_N (by omega) (by unfold fk_N; omega)
theorem euN_s (f a b : Nat) : euN (f + 1) a b = if b = 0 then a else euN f b (a % b) := rfl
theorem M_euL {σ : fk_T} : ∀ (f a b fu : Nat), a < 1000 → b ≤ f → f < 1000 → f < fu → L_X5_common_4 fu (nI a) (nI b) σ (fun x _ s => some (x, s)) = some (nI (euN f a b), σ)
  | f, a, b, 0, _, _, _, hf => by omega
  | 0, a, b, fu + 1, _, hb9, _, _ => by
    have : b = 0 := by omega
    subst this
    rw [L_X5_common_4, if_pos (by decide)]
    rfl
  | f + 1, a, b, fu + 1, ha, hb9, h9, hf => by
    rw [L_X5_common_4, euN_s]
    by_cases z : b = 0
    · subst z
      rw [if_pos (by decide), if_pos rfl]
    · have := Nat.mod_lt a (show b > 0 by omega)
      rw [if_neg (nIz (by omega) z), if_neg z, fD (nIz (by omega) z), fB, nI_mod (by omega) (by omega) (by omega)]
      exact M_euL f b (a % b) fu (by omega) (by omega) (by omega) (by omega)
theorem M_cd {g : Nat} (hg : g ≤ 20) (σ : fk_T) : F_X5_common (nI g) 20 σ = some (nI (cdN g 20), σ) := by
  unfold F_X5_common
  rw [(cd_eu ⟨g, by omega⟩).1]
  exact M_euL 20 g 20 fk_N (by omega) (by omega) (by omega) (by unfold fk_N; omega)
def pwK (q : Int32) : Nat → Int64 → Int64
  | 0, v => v
  | m + 1, v => pwK q m (v * q.toInt64)
theorem pwK_s (q : Int32) (m : Nat) (v : Int64) : pwK q (m + 1) v = pwK q m (v * q.toInt64) := rfl
theorem C_pwL {n : Nat} (hn : n < 1000) {q : Int32} {σ : fk_T} : ∀ (m i fu : Nat) (v : Int64), i + m = n → m < fu → L_X4_power_5 fu q (nI n) v (nI i) σ (fun _ _ y _ s => some (y, s)) = some (pwK q m v, σ)
  | m, i, 0, _, _, hf => by omega
  | 0, i, fu + 1, v, hi, _ => by
    have : i = n := by omega
    subst this
    rw [L_X4_power_5, if_pos (by rw [i_le]; omega)]
    rfl
  | m + 1, i, fu + 1, v, hi, hf => by
    rw [L_X4_power_5, if_neg (by rw [i_le, nI_tI (by omega), nI_tI (by omega)]; omega), fB, fB, nI_1, pwK_s]
    exact C_pwL hn m (i + 1) fu _ (by omega) (by omega)
theorem M_pwL {n : Nat} (hn : n < 1000) {x4 x6 x7 q : Int32} (h7 : ¬ x7 = 0) (hq : q = if x4 = 0 then x6 / x7 else 20 / x7) {σ : fk_T} : ∀ (m i fu : Nat) (v : Int64), i + m = n → m < fu → L_X5_odds_116 fu (nI n) x4 x6 x7 v (nI i) σ (fun _ _ _ _ y _ s => some (y, s)) = some (pwK q m v, σ)
  | m, i, 0, _, _, hf => by omega
  | 0, i, fu + 1, v, hi, _ => by
    have : i = n := by omega
    subst this
    rw [L_X5_odds_116, if_pos (by rw [i_le]; omega)]
    rfl
  | m + 1, i, fu + 1, v, hi, hf => by
    have ih := fun v => M_pwL hn h7 hq (σ := σ) m (i + 1) fu v (by omega) (by omega)
    rw [L_X5_odds_116, if_neg (by rw [i_le, nI_tI (by omega), nI_tI (by omega)]; omega), fD h7, fD h7, fB, fB, fB, fB, nI_1, ih, ih, pwK_s, hq]
    by_cases z : x4 = 0
    · rw [if_pos z, if_pos z]
    · rw [if_neg z, if_neg z]
theorem upd_id (G : Nat → Int32) (k : Nat) : upd G k (G k) = G := by
  funext j
  by_cases e : j = k
  · subst e; rw [u_self]
  · rw [u_ne _ _ e]
theorem C_cts {c a b : Nat} (ha : a < 8) (hb8 : b < 8) {σ : fk_T} {G : Nat → Int32} (h : CP c σ G) : F_X0_claysThatStand c (nI a) (nI b) σ = some (nI (stN G a b 20 1 0), σ) := by
  unfold F_X0_claysThatStand
  rw [C_leans h rfl rfl ha hb8, bS]
  exact C_stL ha hb8 h (k := fun _ _ _ y _ s => some (y, s)) 20 1 fk_N 0 (by omega) (by unfold fk_N; omega)
def odP (G : Nat → Int32) (a b n : Nat) (x4 : Int32) : Int64 := pwK (if x4 = 0 then nI (stN G a b 20 1 0) / nI (cdN (stN G a b 20 1 0) 20) else 20 / nI (cdN (stN G a b 20 1 0) 20)) n 1
theorem od_z (G : Nat → Int32) (a b : Nat) : stN G a b 20 1 0 ≤ 20 ∧ ¬ nI (cdN (stN G a b 20 1 0) 20) = 0 := by
  have hg : stN G a b 20 1 0 ≤ 20 := by have := stN_le G a b 20 1 0; omega
  have hcd := (cd_eu ⟨stN G a b 20 1 0, by omega⟩).2
  exact ⟨hg, nIz (by have := hcd.2; dsimp only at this; omega) (by have := hcd.1; dsimp only at this; omega)⟩
theorem C_od {G : Nat → Int32} {σ : fk_T} (hc : CP 1 σ G) {a b n : Nat} (ha : a < 8) (hb8 : b < 8) (hn : n ≤ 14) (x4 : Int32) : (F_X0_claysThatStand 1 (nI a) (nI b) σ).bind (fun q6 => (F_X4_commonDivisor q6.1 20 q6.2).bind (fun q7 => if x4 = 0 then (fk_D q7.1 ((F_X4_power (q6.1 / q7.1) (nI n) q7.2).bind (fun q9 => some (q9.1, q9.2)))) else (fk_D q7.1 ((F_X4_power (20 / q7.1) (nI n) q7.2).bind (fun q8 => some (q8.1, q8.2)))))) = some (odP G a b n x4, σ) := by
  obtain ⟨hg, hz⟩ := od_z G a b
  rw [C_cts ha hb8 hc, bS]
  dsimp only
  rw [C_cd hg, bS]
  dsimp only
  have hp : ∀ q, F_X4_power q (nI n) σ = some (pwK q n 1, σ) := fun q => C_pwL (by omega) n 0 fk_N 1 (by omega) (by unfold fk_N; omega)
  unfold odP
  by_cases z : x4 = 0
  · rw [if_pos z, if_pos z, fD hz, hp, bS]
  · rw [if_neg z, if_neg z, fD hz, hp, bS]
theorem M_od {σ : fk_T} (hw : WF (σ.1 27)) {a b n : Nat} (ha : a < 8) (hb8 : b < 8) (hn : n ≤ 14) (x4 : Int32) : ∃ σ', fk_A (σ.1 27) 135 3 (fun y6 => L_X5_odds_53 fk_N (nI a) (nI b) (nI n) x4 y6 0 1 σ (fun y14 y15 y16 y17 y18 y19 y20 s13 => fk_S s13 27 135 3 y18 (fun s21 => (F_X5_common y19 20 s21).bind (fun q22 => L_X5_odds_116 fk_N y16 y17 y19 q22.1 1 0 q22.2 (fun y28 y29 y30 y31 y32 y33 s27 => some (y32, s27)))))) = some (odP (σ.1 27) a b n x4, σ') ∧ ∀ r, σ'.1 r = σ.1 r := by
  obtain ⟨hg, hz⟩ := od_z (σ.1 27) a b
  obtain ⟨s1, c', g1, g2, g3⟩ := M_stL ha hb8 hw (x3 := nI n) (x4 := x4) (x5 := σ.1 27 3) (k := fun y14 y15 y16 y17 y18 y19 y20 s13 => fk_S s13 27 135 3 y18 (fun s21 => (F_X5_common y19 20 s21).bind (fun q22 => L_X5_odds_116 fk_N y16 y17 y19 q22.1 1 0 q22.2 (fun y28 y29 y30 y31 y32 y33 s27 => some (y32, s27))))) 20 1 fk_N 0 (σ := σ) (c := σ.1 27 3) (upd_id _ _).symm (by omega) (by unfold fk_N; omega)
  refine ⟨fk_w s1 27 (upd (s1.1 27) 3 (σ.1 27 3)), ?_, fun r => ?_⟩
  · rw [rdG 3 (by omega)]
    refine g1.trans ?_
    rw [fS (j := 3) (nlit 3) (by omega) (by omega), M_cd hg, bS]
    exact M_pwL (by omega) hz rfl n 0 fk_N 1 (by omega) (by unfold fk_N; omega)
  · by_cases z : r = 27
    · rw [z, w_self, g2, upd_upd, upd_id]
    · rw [w_ne _ _ z, g3 r z]
theorem Q_odds {σ : fk_T} (hI : Inv σ) (x1 x2 x3 x4 : Int32) : QL (F_X4_odds x1 x2 x3 x4) (F_X5_odds x1 x2 x3 x4) σ := by
  obtain ⟨hw, hc⟩ := hI.p
  have c1 : F_X0_hasTwo 1 x1 x2 σ = some (twoG (σ.1 27) x1 x2, σ) := C_hasTwo hc x1 x2
  have c2 : ∀ τ, F_X4_within x3 0 14 τ = some (inR x3 0 14, τ) := cR x3 0 14 (by omega) (by omega)
  have c3 : ∀ τ, F_X4_within x4 0 1 τ = some (inR x4 0 1, τ) := cR x4 0 1 (by omega) (by omega)
  cases h1 : twoG (σ.1 27) x1 x2
  · refine QL.find hI ?_ ?_
    · unfold F_X4_odds
      rw [c1, bS]
      dsimp only
      rw [h1, if_pos (show fk_b false = 0 from rfl)]
    · have m1 : F_X5_areTwo x1 x2 (f25 σ 0) = some (twoG (σ.1 27) x1 x2, (f25 σ 0)) := M_areTwo (σ := (f25 σ 0)) hw x1 x2
      unfold F_X5_odds
      rw [m1, bS]
      dsimp only
      rw [h1, if_pos (show fk_b false = 0 from rfl)]
  cases h2 : inR x3 0 14
  · refine QL.find hI ?_ ?_
    · unfold F_X4_odds
      rw [c1, bS]
      dsimp only
      rw [h1, if_neg fbT]
      rw [c2, bS]
      dsimp only
      rw [h2, if_pos (show fk_b false = 0 from rfl)]
    · have m1 : F_X5_areTwo x1 x2 (f25 σ 0) = some (twoG (σ.1 27) x1 x2, (f25 σ 0)) := M_areTwo (σ := (f25 σ 0)) hw x1 x2
      have m2 : ∀ τ, F_X5_in x3.toInt64 0 14 τ = some (inR x3 0 14, τ) := mR x3 0 14 (by omega) (by omega)
      unfold F_X5_odds
      rw [m1, bS]
      dsimp only
      rw [h1, if_neg fbT]
      rw [m2, bS]
      dsimp only
      rw [h2, if_pos (show fk_b false = 0 from rfl)]
  cases h3 : inR x4 0 1
  · refine QL.find hI ?_ ?_
    · unfold F_X4_odds
      rw [c1, bS]
      dsimp only
      rw [h1, if_neg fbT]
      rw [c2, bS]
      dsimp only
      rw [h2, if_neg fbT]
      rw [c3, bS]
      dsimp only
      rw [h3, if_pos (show fk_b false = 0 from rfl)]
    · have m1 : F_X5_areTwo x1 x2 (f25 σ 0) = some (twoG (σ.1 27) x1 x2, (f25 σ 0)) := M_areTwo (σ := (f25 σ 0)) hw x1 x2
      have m2 : ∀ τ, F_X5_in x3.toInt64 0 14 τ = some (inR x3 0 14, τ) := mR x3 0 14 (by omega) (by omega)
      have m3 : ∀ τ, F_X5_in x4.toInt64 0 1 τ = some (inR x4 0 1, τ) := mR x4 0 1 (by omega) (by omega)
      unfold F_X5_odds
      rw [m1, bS]
      dsimp only
      rw [h1, if_neg fbT]
      rw [m2, bS]
      dsimp only
      rw [h2, if_neg fbT]
      rw [m3, bS]
      dsimp only
      rw [h3, if_pos (show fk_b false = 0 from rfl)]
  obtain ⟨a, b, e1, e2, ha, hb8, hab, -⟩ := twoG_of hw h1
  obtain ⟨n, e3, n1, n2, hn⟩ := inR_of h2
  obtain ⟨s1, g1, g2⟩ := M_od hw ha hb8 (by omega : n ≤ 14) x4
  refine ⟨odP (σ.1 27) a b n x4, σ, s1, ?_, ?_, ?_⟩
  · have hh := C_od hc ha hb8 (by omega : n ≤ 14) x4
    rw [← e1, ← e2, ← e3] at hh
    rw [← hh]
    unfold F_X4_odds
    rw [c1, bS]
    dsimp only
    rw [h1, if_neg fbT]
    rw [c2, bS]
    dsimp only
    rw [h2, if_neg fbT]
    rw [c3, bS]
    dsimp only
    rw [h3, if_neg fbT]
  · have m1 : F_X5_areTwo x1 x2 σ = some (twoG (σ.1 27) x1 x2, σ) := M_areTwo (σ := σ) hw x1 x2
    have m2 : ∀ τ, F_X5_in x3.toInt64 0 14 τ = some (inR x3 0 14, τ) := mR x3 0 14 (by omega) (by omega)
    have m3 : ∀ τ, F_X5_in x4.toInt64 0 1 τ = some (inR x4 0 1, τ) := mR x4 0 1 (by omega) (by omega)
    rw [← e1, ← e2, ← e3] at g1
    rw [← g1]
    unfold F_X5_odds
    rw [m1, bS]
    dsimp only
    rw [h1, if_neg fbT]
    rw [m2, bS]
    dsimp only
    rw [h2, if_neg fbT]
    rw [m3, bS]
    dsimp only
    rw [h3, if_neg fbT]
  · exact hI.mk' ⟨fun r hr => g2 r, by rw [g2 26], by rw [g2 26]⟩ (by rw [g2 27]; exact hw) (by rw [g2 27]; exact hc.fr (fun r h1 h2 => g2 r))
