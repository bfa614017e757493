/-! ===== class and reference stand alike ===== -/
def IvK (σ : fk_T) : Prop := σ.1 0 3 = σ.1 26 4 ∧ (σ.1 0 3 = 0 ∨ σ.1 0 3 = 1) ∧ (σ.1 0 3 = 1 → WF (σ.1 30) ∧ CP 11 σ (σ.1 30))
def IvF (σ : fk_T) : Prop := ∀ i, i < 7 → σ.1 25 i = σ.1 31 i
def IvT (σ : fk_T) : Prop := ∃ t : Nat, t ≤ 120 ∧ σ.1 16 1 = nI t ∧ σ.1 26 7 = nI t ∧ ∀ i, i < t → (0 ≤ (σ.1 17 i).toInt ∧ (σ.1 17 i).toInt ≤ 255) ∧ σ.1 32 i = (σ.1 17 i).toInt8.toInt32
def IvS (σ : fk_T) : Prop := ∀ s, s < 4 → σ.1 22 s = σ.1 33 s ∧ (σ.1 22 s = 0 ∨ σ.1 22 s = 8 ∨ σ.1 22 s = 16 ∨ σ.1 22 s = 32) ∧ σ.1 23 s = σ.1 34 s ∧ ∃ z : Nat, z ≤ 40 ∧ σ.1 23 s = nI z ∧ ∀ i, i < z → σ.1 24 (40 * s + i) = σ.1 35 (40 * s + i)
def IvP (σ : fk_T) : Prop := WF (σ.1 27) ∧ CP 1 σ (σ.1 27)
def Inv (σ : fk_T) : Prop := IvP σ ∧ IvK σ ∧ IvF σ ∧ IvT σ ∧ IvS σ
theorem IvK.fr {σ σ' : fk_T} (h : IvK σ) (h0 : σ'.1 0 = σ.1 0) (h26 : σ'.1 26 4 = σ.1 26 4) (h30 : σ'.1 30 = σ.1 30) (hk : ∀ a, 11 ≤ a → a ≤ 15 → σ'.1 a = σ.1 a) : IvK σ' := by
  obtain ⟨a, b, c⟩ := h
  unfold IvK
  rw [h0, h26, h30]
  exact ⟨a, b, fun z => ⟨(c z).1, (c z).2.fr (fun q h1 h2 => hk q h1 (by omega))⟩⟩
theorem IvF.fr {σ σ' : fk_T} (h : IvF σ) (h0 : σ'.1 25 = σ.1 25) (h1 : σ'.1 31 = σ.1 31) : IvF σ' := by
  unfold IvF; rw [h0, h1]; exact h
theorem IvT.fr {σ σ' : fk_T} (h : IvT σ) (h0 : σ'.1 16 = σ.1 16) (h1 : σ'.1 26 7 = σ.1 26 7) (h2 : σ'.1 17 = σ.1 17) (h3 : σ'.1 32 = σ.1 32) : IvT σ' := by
  unfold IvT; rw [h0, h1, h2, h3]; exact h
theorem IvS.fr {σ σ' : fk_T} (h : IvS σ) (h1 : σ'.1 22 = σ.1 22) (h2 : σ'.1 23 = σ.1 23) (h3 : σ'.1 24 = σ.1 24) (h4 : σ'.1 33 = σ.1 33) (h5 : σ'.1 34 = σ.1 34) (h6 : σ'.1 35 = σ.1 35) : IvS σ' := by
  unfold IvS; rw [h1, h2, h3, h4, h5, h6]; exact h
/-- what else than the pottery is there is the same -/
def Eqo (σ σ' : fk_T) : Prop := (∀ a, (a = 0 ∨ (11 ≤ a ∧ a ≤ 17) ∨ (22 ≤ a ∧ a ≤ 25) ∨ (30 ≤ a ∧ a ≤ 35)) → σ'.1 a = σ.1 a) ∧ σ'.1 26 4 = σ.1 26 4 ∧ σ'.1 26 7 = σ.1 26 7
theorem Eqo.rf (σ : fk_T) : Eqo σ σ := ⟨fun _ _ => rfl, rfl, rfl⟩
theorem Eqo.tr {σ σ1 σ2 : fk_T} (h1 : Eqo σ σ1) (h2 : Eqo σ1 σ2) : Eqo σ σ2 := ⟨fun a ha => (h2.1 a ha).trans (h1.1 a ha), h2.2.1.trans h1.2.1, h2.2.2.trans h1.2.2⟩
theorem Eqo.w {σ : fk_T} {r : Nat} (g : Nat → Int32) (h : (1 ≤ r ∧ r ≤ 10) ∨ (18 ≤ r ∧ r ≤ 21) ∨ (27 ≤ r ∧ r ≤ 29) ∨ 36 ≤ r) : Eqo σ (fk_w σ r g) := ⟨fun a ha => w_ne _ _ (by omega), by rw [w_ne _ _ (by omega)], by rw [w_ne _ _ (by omega)]⟩
theorem Eqo.p1 {σ σ' : fk_T} (h : FrP 1 σ σ') : Eqo σ σ' := ⟨fun a ha => h.1 a (by omega), by rw [h.1 26 (by omega)], by rw [h.1 26 (by omega)]⟩
theorem Eqo.p6 {σ σ' : fk_T} (h : FrP 6 σ σ') : Eqo σ σ' := ⟨fun a ha => h.1 a (by omega), by rw [h.1 26 (by omega)], by rw [h.1 26 (by omega)]⟩
theorem Inv.mk' {σ σ' : fk_T} (h : Inv σ) (he : Eqo σ σ') (hw : WF (σ'.1 27)) (hc : CP 1 σ' (σ'.1 27)) : Inv σ' := by
  obtain ⟨-, hk, hf, ht, hs⟩ := h
  obtain ⟨e, e4, e7⟩ := he
  exact ⟨⟨hw, hc⟩, hk.fr (e 0 (by omega)) e4 (e 30 (by omega)) (fun a h1 h2 => e a (by omega)), hf.fr (e 25 (by omega)) (e 31 (by omega)), ht.fr (e 16 (by omega)) e7 (e 17 (by omega)) (e 32 (by omega)), hs.fr (e 22 (by omega)) (e 23 (by omega)) (e 24 (by omega)) (e 33 (by omega)) (e 34 (by omega)) (e 35 (by omega))⟩
/-- answers alike, and all stands alike behind -/
def QQ (fc fm : fk_T → Option (Int32 × fk_T)) (σ : fk_T) : Prop := ∃ (r : Int32) (σ1 σ2 : fk_T), fc σ = some (r, σ1) ∧ fm σ1 = some (r, σ2) ∧ Inv σ2
/-- a finding on both sides -/
def f25 (σ : fk_T) (k : Nat) : fk_T := fk_w σ 25 (upd (σ.1 25) k (σ.1 25 k + 1))
def f31 (σ : fk_T) (k : Nat) : fk_T := fk_w σ 31 (upd (σ.1 31) k (σ.1 31 k + 1))
theorem c25 (σ : fk_T) {k : Nat} (hk : k < 7) : F_X4_found (OfNat.ofNat k) σ = some (-1000001 - (OfNat.ofNat k : Int32), f25 σ k) := C_found (nlit k) hk
theorem c31 (σ : fk_T) {k : Nat} (hk : k < 7) : F_X5_finds (OfNat.ofNat k) σ = some (-1000001 - (OfNat.ofNat k : Int32), f31 σ k) := M_finds (nlit k) hk
theorem f25_ne (σ : fk_T) (k : Nat) {a : Nat} (h : a ≠ 25) : (f25 σ k).1 a = σ.1 a := w_ne _ _ h
theorem f31_ne (σ : fk_T) (k : Nat) {a : Nat} (h : a ≠ 31) : (f31 σ k).1 a = σ.1 a := w_ne _ _ h
theorem Inv.find {σ : fk_T} (h : Inv σ) {k : Nat} (hk : k < 7) : Inv (f31 (f25 σ k) k) := by
  obtain ⟨hp, hK, hf, ht, hs⟩ := h
  have e : ∀ a, a ≠ 25 → a ≠ 31 → (f31 (f25 σ k) k).1 a = σ.1 a := fun a h1 h2 => by rw [f31_ne _ _ h2, f25_ne _ _ h1]
  refine ⟨⟨by rw [e 27 (by omega) (by omega)]; exact hp.1, by rw [e 27 (by omega) (by omega)]; exact hp.2.fr (fun a h1 h2 => e a (by omega) (by omega))⟩, hK.fr (e 0 (by omega) (by omega)) (by rw [e 26 (by omega) (by omega)]) (e 30 (by omega) (by omega)) (fun a h1 h2 => e a (by omega) (by omega)), ?_, ht.fr (e 16 (by omega) (by omega)) (by rw [e 26 (by omega) (by omega)]) (e 17 (by omega) (by omega)) (e 32 (by omega) (by omega)), hs.fr (e 22 (by omega) (by omega)) (e 23 (by omega) (by omega)) (e 24 (by omega) (by omega)) (e 33 (by omega) (by omega)) (e 34 (by omega) (by omega)) (e 35 (by omega) (by omega))⟩
  intro i hi
  rw [f31_ne _ _ (by omega)]
  unfold f31 f25
  rw [w_self, w_self, w_ne _ _ (by omega)]
  by_cases e : i = k
  · subst e; rw [u_self, u_self, hf i hi]
  · rw [u_ne _ _ e, u_ne _ _ e]; exact hf i hi
/-- both find k -/
theorem QQ.find {σ : fk_T} (h : Inv σ) {k : Nat} (hk : k < 7) {fc fm : fk_T → Option (Int32 × fk_T)} (h1 : fc σ = (F_X4_found (OfNat.ofNat k) σ).bind (fun q => some (q.1, q.2))) (h2 : fm (f25 σ k) = (F_X5_finds (OfNat.ofNat k) (f25 σ k)).bind (fun q => some (q.1, q.2))) : QQ fc fm σ :=
  ⟨_, _, _, h1.trans (by rw [c25 σ hk]; rfl), h2.trans (by rw [c31 _ hk]; rfl), h.find hk⟩
def inR (v : Int32) (a b : Nat) : Bool := decide ((a : Int) ≤ v.toInt ∧ v.toInt ≤ (b : Int))
theorem cR (v : Int32) (a b : Nat) (ha : a < 2147483648) (hb9 : b < 2147483648) (σ : fk_T) : F_X4_within v (OfNat.ofNat a) (OfNat.ofNat b) σ = some (inR v a b, σ) := by
  rw [C_within, li ha, li hb9]; rfl
theorem mR (v : Int32) (a b : Nat) (ha : a < 2147483648) (hb9 : b < 2147483648) (σ : fk_T) : F_X5_in v.toInt64 (OfNat.ofNat a) (OfNat.ofNat b) σ = some (inR v a b, σ) := by
  rw [M_in, lL (by omega), lL (by omega), Int32.toInt_toInt64]; rfl
theorem inR_of {v : Int32} {a b : Nat} (h : inR v a b = true) : ∃ p : Nat, v = nI p ∧ a ≤ p ∧ p ≤ b ∧ (p : Int) = v.toInt := by
  have h1 := of_decide_eq_true h
  obtain ⟨p, e, hp⟩ := toN (x := v) (by omega)
  exact ⟨p, e, by omega, by omega, hp⟩
/-! ===== copying a row, a pottery ===== -/
def cpG (f g : Nat → Int32) : Nat → Int32 := fun k => if k < 135 then f k else g k
theorem l135 : (135 : Int32).toInt = 135 := by decide
theorem M_copL {u w : Nat} (huw : u ≠ w) {k : Int32 → fk_T → Option fk_T} : ∀ (m i fu : Nat) {σ : fk_T}, i + m = 135 → m < fu → L_X5_copies_2 u w fu (nI i) σ k = k (nI 135) (fk_w σ w (fun j => if i ≤ j ∧ j < 135 then σ.1 u j else σ.1 w j))
  | 0, i, 0, _, _, hf => by omega
  | 0, i, fu + 1, σ, hi, _ => by
    have : i = 135 := by omega
    subst this
    rw [L_X5_copies_2, if_pos (by rw [i_le, nI_tI (by omega), l135]; omega)]
    rw [w_id (by funext j; rw [if_neg (by omega)])]
  | m + 1, i, 0, _, _, hf => by omega
  | m + 1, i, fu + 1, σ, hi, hf => by
    rw [L_X5_copies_2, if_neg (by rw [i_le, nI_tI (by omega), l135]; omega), fA rfl (by omega) (by omega), fS rfl (by omega) (by omega)]
    simp only [fk_B]
    rw [nI_1, M_copL huw m (i + 1) fu (by omega) (by omega), w_w, w_self, w_ne _ _ huw]
    congr 2
    funext j
    by_cases e : j = i
    · subst e; rw [if_neg (by omega), if_pos (by omega), u_self]
    · rw [u_ne _ _ e]
      by_cases e2 : i + 1 ≤ j ∧ j < 135
      · rw [if_pos e2, if_pos (by omega)]
      · rw [if_neg e2, if_neg (by omega)]
theorem M_copies {u w : Nat} (huw : u ≠ w) (σ : fk_T) : F_X5_copies u w σ = some (fk_w σ w (cpG (σ.1 u) (σ.1 w))) := by
  unfold F_X5_copies
  rw [show (0 : Int32) = nI 0 from rfl, M_copL huw 135 0 fk_N (by omega) (by unfold fk_N; omega)]
  congr 2
  funext j
  unfold cpG
  simp
theorem WF.cong {G G' : Nat → Int32} (h : WF G) (he : ∀ k, k < 135 → G' k = G k) : WF G' := ⟨fun k h1 h2 h3 => by rw [he k (by omega)]; exact h.1 k h1 h2 h3, fun j hj => by rw [he _ (by omega), he 0 (by omega)]; exact h.2 j hj⟩
theorem CP.cong {b : Nat} {σ : fk_T} {G G' : Nat → Int32} (h : CP b σ G) (he : ∀ k, k < 135 → G' k = G k) : CP b σ G' := by
  obtain ⟨h1, h2, h3, h4, h5⟩ := h
  exact ⟨fun i hi => by have := ob_lt hi; rw [he _ (by omega)]; exact h1 i hi, fun i hi => by rw [he _ (by omega)]; exact h2 i hi, fun i hi => by rw [he _ (by omega)]; exact h3 i hi, fun i hi => by rw [he _ (by omega)]; exact h4 i hi, fun i hi => by rw [he _ (by omega)]; exact h5 i hi⟩
theorem cpy0 {f g : Nat → Int32} {n j : Nat} (h : j < n) : va_cpy f g 0 0 n j = f j := by
  unfold va_cpy
  rw [if_pos (by omega)]
  congr 1
  omega
theorem C_become {b c : Nat} (hb : hp_P b) (hc : hp_P c) (hbc : b ≠ c) {σ : fk_T} {G : Nat → Int32} (h : CP c σ G) : ∃ σ', F_X0_become b c σ = some σ' ∧ CP b σ' G ∧ FrP b σ σ' := by
  have hd : c + 4 < b ∨ b + 4 < c := by unfold hp_P at hb hc; omega
  unfold F_X0_become
  simp only [fk_B]
  rw [fY (s0 := 0) (d0 := 0) (m := 6) (nlit 0) (nlit 0) (nlit 6) (by omega) (by omega) (by omega) (by omega)]
  rw [fY (s0 := 0) (d0 := 0) (m := 48) (nlit 0) (nlit 0) (nlit 48) (by omega) (by omega) (by omega) (by omega)]
  rw [fY (s0 := 0) (d0 := 0) (m := 64) (nlit 0) (nlit 0) (nlit 64) (by omega) (by omega) (by omega) (by omega)]
  rw [fY (s0 := 0) (d0 := 0) (m := 10) (nlit 0) (nlit 0) (nlit 10) (by omega) (by omega) (by omega) (by omega)]
  refine ⟨_, rfl, ?_, ⟨fun a ha => ?_, rfl⟩⟩
  · obtain ⟨h1, h2, h3, h4, h5⟩ := h
    refine ⟨fun i hi => ?_, fun i hi => ?_, fun i hi => ?_, fun i hi => ?_, fun i hi => ?_⟩
    · simp only [w_self, w_ne _ _ (show b ≠ b + 4 by omega), w_ne _ _ (show b ≠ b + 3 by omega), w_ne _ _ (show b ≠ b + 2 by omega), w_ne _ _ (show b ≠ b + 1 by omega), w_ne _ _ (show c ≠ b by omega)]
      rcases (show i = 0 ∨ i = 1 ∨ i = 2 ∨ i = 3 ∨ i = 4 ∨ i = 5 ∨ i = 6 by omega) with rfl | rfl | rfl | rfl | rfl | rfl | rfl
      · exact h1 0 (by omega)
      · exact h1 1 (by omega)
      · exact h1 2 (by omega)
      · exact h1 3 (by omega)
      · exact h1 4 (by omega)
      · exact h1 5 (by omega)
      · exact h1 6 (by omega)
    · rw [w_ne _ _ (by omega), w_ne _ _ (by omega), w_ne _ _ (by omega), w_self, cpy0 hi]
      simp only [w_ne _ _ (show c + 1 ≠ b by omega)]
      exact h2 i hi
    · rw [w_ne _ _ (by omega), w_ne _ _ (by omega), w_self, cpy0 hi, w_ne _ _ (by omega)]
      simp only [w_ne _ _ (show c + 2 ≠ b by omega)]
      exact h3 i hi
    · rw [w_ne _ _ (by omega), w_self, cpy0 hi, w_ne _ _ (by omega), w_ne _ _ (by omega)]
      simp only [w_ne _ _ (show c + 3 ≠ b by omega)]
      exact h4 i hi
    · rw [w_self, cpy0 hi, w_ne _ _ (by omega), w_ne _ _ (by omega), w_ne _ _ (by omega)]
      simp only [w_ne _ _ (show c + 4 ≠ b by omega)]
      exact h5 i hi
  · rw [w_ne _ _ (by omega), w_ne _ _ (by omega), w_ne _ _ (by omega), w_ne _ _ (by omega)]
    simp only [w_ne _ _ (show a ≠ b by omega)]
