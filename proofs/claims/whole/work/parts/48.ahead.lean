/-! ===== what lies behind the row stays ===== -/
def Out (G G' : Nat → Int32) : Prop := ∀ k, 135 ≤ k → G' k = G k
theorem Out.rf (G : Nat → Int32) : Out G G := fun _ _ => rfl
theorem Out.tr {G G1 G2 : Nat → Int32} (h1 : Out G G1) (h2 : Out G1 G2) : Out G G2 := fun k hk => (h2 k hk).trans (h1 k hk)
theorem Out.ga {G : Nat → Int32} {k : Nat} (x most : Int32) (h : k < 135) : Out G (ga G k x most) := fun j hj => ga_ne (by omega)
theorem Out.u {G : Nat → Int32} {k : Nat} (x : Int32) (h : k < 135) : Out G (upd G k x) := fun j hj => u_ne _ _ (by omega)
theorem out_flop1 {G : Nat → Int32} {p : Nat} (h : p < 8) : Out G (flop1 G p) := (Out.ga _ _ (by omega)).tr (Out.ga _ _ (by omega))
theorem out_stand1 {G : Nat → Int32} {p : Nat} (h : p < 8) : Out G (stand1 G p) := (Out.ga _ _ (by omega)).tr (Out.ga _ _ (by omega))
theorem out_sellG (G : Nat → Int32) (r l : Int32) : Out G (sellG G r l) := ((Out.ga _ _ (by omega)).tr (Out.ga _ _ (by omega))).tr (Out.ga _ _ (by omega))
theorem out_potG {G : Nat → Int32} {a b : Nat} (ha : a < 8) (hb8 : b < 8) : Out G (potG G a b) := by
  have := gbt_lt ha hb8
  unfold potG
  refine Out.tr ?_ (Out.ga _ _ (by omega))
  split
  · exact (out_flop1 ha).tr (out_flop1 hb8)
  · exact ((out_stand1 ha).tr (out_stand1 hb8)).tr (out_sellG _ _ _)
theorem out_ageK : ∀ (m : Nat) {G : Nat → Int32} {i : Nat}, i + m ≤ 8 → Out G (ageK G i m)
  | 0, _, _, _ => Out.rf _
  | m + 1, G, i, h => (Out.ga (k := 37 + i) 1 99 (by omega)).tr (out_ageK m (by omega))
theorem out_dayG {G : Nat → Int32} (hw : WF G) : Out G (dayG G) := by
  have h1 : Out G (throwG G) := by
    unfold throwG
    by_cases h : twoG G (todayG G / 10) (todayG G - todayG G / 10 * 10) = true
    · rw [if_pos h]
      obtain ⟨a, b, e1, e2, ha, hb8, -⟩ := twoG_of hw h
      rw [e2, e1, nI_tI (by omega), nI_tI (by omega)]
      exact out_potG (by omega) (by omega)
    · rw [if_neg h]; exact Out.rf _
  have h2 : Out (throwG G) (ageG (throwG G)) := by
    unfold ageG
    split
    · exact out_ageK _ (by have := (nG_of (wf_throwG hw).1).2.1; omega)
    · exact Out.rf _
  exact (h1.tr h2).tr (Out.ga _ _ (by omega))
theorem out_daysG : ∀ (n : Nat) {G : Nat → Int32}, WF G → Out G (daysG G n)
  | 0, _, _ => Out.rf _
  | n + 1, _, h => (out_dayG h).tr (out_daysG n (wf_dayG h).1)
theorem cp_back {G G' A : Nat → Int32} (h : Out G G') : cpG (cpG G A) G' = G := by
  funext k
  unfold cpG
  by_cases hk : k < 135
  · rw [if_pos hk, if_pos hk]
  · rw [if_neg hk]; exact h k (by omega)
/-- all is put back from what is put aside -/
theorem M_back {σ : fk_T} {G A : Nat → Int32} (h29 : σ.1 29 = cpG G A) (ho : Out G (σ.1 27)) : F_X5_copies 29 27 σ = some (fk_w σ 27 G) := by
  rw [M_copies (by omega), h29, cp_back ho]
/-- put aside -/
def as29 (σ : fk_T) : fk_T := fk_w σ 29 (cpG (σ.1 27) (σ.1 29))
theorem M_aside (σ : fk_T) : F_X5_copies 27 29 σ = some (as29 σ) := M_copies (by omega) σ
theorem as_ne (σ : fk_T) {a : Nat} (h : a ≠ 29) : (as29 σ).1 a = σ.1 a := w_ne _ _ h
theorem as_29 (σ : fk_T) : (as29 σ).1 29 = cpG (σ.1 27) (σ.1 29) := w_self _ _ _
theorem w_c (σ : fk_T) {a b : Nat} (f g : Nat → Int32) (h : a ≠ b) : fk_w (fk_w σ a f) b g = fk_w (fk_w σ b g) a f := by
  apply Prod.ext
  · funext y
    show (if y = b then g else if y = a then f else σ.1 y) = if y = a then f else if y = b then g else σ.1 y
    by_cases e1 : y = b
    · rw [if_pos e1, if_neg (by omega), if_pos e1]
    · rw [if_neg e1, if_neg e1]
  · rfl
/-- some days behind, from what is put aside -/
theorem M_behind {σ : fk_T} {G A : Nat → Int32} (h29 : σ.1 29 = cpG G A) (hw : WF (σ.1 27)) (ho : Out G (σ.1 27)) {x y : Int32} {n k : Nat} (hx : x = nI n) (hn : n < 4000) (hy : y = nI k) (hk : k < 135) : F_X5_behind x y σ = some (daysG (σ.1 27) n k, fk_w σ 27 G) := by
  unfold F_X5_behind
  rw [M_daysGo hx hn hw, bS, fA hy hk (by omega), w_self, M_back (G := G) (A := A) (by rw [w_ne _ _ (by omega)]; exact h29) (by rw [w_self]; exact ho.tr (out_daysG n hw)), bS, w_w]
theorem Inv.trial {σ σ1 : fk_T} (h : Inv σ) (hf : FrP 6 σ σ1) : Inv σ1 := by
  have e27 : σ1.1 27 = σ.1 27 := hf.1 27 (by omega)
  exact h.mk' (Eqo.p6 hf) (by rw [e27]; exact h.1.1) (by rw [e27]; exact h.1.2.fr (fun a h1 h2 => hf.1 a (by omega)))
theorem Inv.aside {σ : fk_T} (h : Inv σ) : Inv (as29 σ) := h.mk' (Eqo.w _ (by omega)) (by rw [as_ne _ (by omega)]; exact h.1.1) (by rw [as_ne _ (by omega)]; exact h.1.2.fr (fun a h1 h2 => w_ne _ _ (by omega)))
theorem w27_id {σ : fk_T} {G : Nat → Int32} (h : G = σ.1 27) : fk_w σ 27 G = σ := w_id h
/-! ===== the first day on which something is so ===== -/
def endG (P : (Nat → Int32) → Bool) (G : Nat → Int32) : Nat → Nat → Nat × (Nat → Int32)
  | 0, n => (n, G)
  | m + 1, n => if P G = true then (n, G) else endG P (dayG G) m (n + 1)
theorem endG_wf (P : (Nat → Int32) → Bool) : ∀ (m n : Nat) {G : Nat → Int32}, WF G → WF (endG P G m n).2 ∧ Out G (endG P G m n).2 ∧ (endG P G m n).1 ≤ n + m
  | 0, n, _, h => ⟨h, Out.rf _, Nat.le_refl _⟩
  | m + 1, n, G, h => by
    unfold endG
    split
    · exact ⟨h, Out.rf _, by show n ≤ _; omega⟩
    · obtain ⟨a, b, c⟩ := endG_wf P m (n + 1) (wf_dayG h).1
      exact ⟨a, (out_dayG h).tr b, by omega⟩
def rngP (w : Nat) (lo hi : Int32) (G : Nat → Int32) : Bool := decide (lo.toInt ≤ (G w).toInt ∧ (G w).toInt ≤ hi.toInt)
theorem M_firstL {w : Nat} (hw9 : w < 135) {lo hi : Int32} {k : Int32 → Int32 → Int32 → Int32 → fk_T → Option (Int32 × fk_T)} : ∀ (m n fu : Nat) {σ : fk_T}, WF (σ.1 27) → n + m = 200 → m < fu → L_X5_firstOf_14 fu (nI w) lo hi (nI n) σ k = k (nI w) lo hi (nI (endG (rngP w lo hi) (σ.1 27) m n).1) (fk_w σ 27 (endG (rngP w lo hi) (σ.1 27) m n).2)
  | 0, n, 0, _, _, _, hf => by omega
  | 0, n, fu + 1, σ, hw, hn, _ => by
    rw [L_X5_firstOf_14, if_pos (by rw [i_le, nI_tI (by omega), show (200 : Int32).toInt = 200 by decide]; omega)]
    show _ = k (nI w) lo hi (nI n) (fk_w σ 27 (σ.1 27))
    rw [w_id rfl]
  | m + 1, n, 0, _, _, _, hf => by omega
  | m + 1, n, fu + 1, σ, hw, hn, hf => by
    rw [L_X5_firstOf_14, if_neg (by rw [i_le, nI_tI (by omega), show (200 : Int32).toInt = 200 by decide]; omega), fA rfl hw9 (by omega), M_in, bS]
    simp only [Int32.toInt_toInt64, fb0]
    have e : decide (lo.toInt ≤ (σ.1 27 w).toInt ∧ (σ.1 27 w).toInt ≤ hi.toInt) = rngP w lo hi (σ.1 27) := rfl
    rw [e]
    unfold endG
    cases hp : rngP w lo hi (σ.1 27)
    · simp only [if_true, Bool.false_eq_true, if_false]
      rw [M_dayGoes hw, bS]
      simp only [fk_B]
      rw [nI_1, M_firstL hw9 m (n + 1) fu (by rw [w_self]; exact (wf_dayG hw).1) (by omega) (by omega), w_self, w_w]
    · simp only [Bool.true_eq_false, if_false, if_true]
      rw [w_id rfl]
theorem M_firstOf {σ : fk_T} (hw : WF (σ.1 27)) {x lo hi : Int32} {w : Nat} (hx : x = nI w) (hw9 : w < 135) : F_X5_firstOf x lo hi σ = if rngP w lo hi (endG (rngP w lo hi) (σ.1 27) 200 0).2 = false then (F_X5_finds 3 (as29 σ)).bind (fun q => some (q.1, q.2)) else some (nI (endG (rngP w lo hi) (σ.1 27) 200 0).1, as29 σ) := by
  subst hx
  have hwa : WF ((as29 σ).1 27) := by rw [as_ne _ (by omega)]; exact hw
  unfold F_X5_firstOf
  rw [M_aside, bS, show (0 : Int32) = nI 0 from rfl, M_firstL hw9 200 0 fk_N hwa (by omega) (by unfold fk_N; omega), as_ne _ (by omega)]
  obtain ⟨a, b, c⟩ := endG_wf (rngP w lo hi) 200 0 hw
  rw [fA rfl hw9 (by omega), M_in, bS, w_self]
  simp only [Int32.toInt_toInt64, fk_B]
  rw [M_back (G := σ.1 27) (A := σ.1 29) (by rw [w_ne _ _ (by omega), as_29]) (by rw [w_self]; exact b), bS, w_w, w_id (by rw [as_ne _ (by omega)])]
  have e : decide (lo.toInt ≤ ((endG (rngP w lo hi) (σ.1 27) 200 0).2 w).toInt ∧ ((endG (rngP w lo hi) (σ.1 27) 200 0).2 w).toInt ≤ hi.toInt) = rngP w lo hi (endG (rngP w lo hi) (σ.1 27) 200 0).2 := rfl
  rw [e]
  cases rngP w lo hi (endG (rngP w lo hi) (σ.1 27) 200 0).2 <;> rfl
/-- one day of the trial -/
theorem C_pass1 {c : Nat} (hc : hp_P c) {σ : fk_T} {G : Nat → Int32} (h : CP c σ G) (hw : WF G) : ∃ σ', F_X0_passDays c 1 σ = some σ' ∧ CP c σ' (dayG G) ∧ FrP c σ σ' := C_passDays hc (n := 1) rfl (by omega) h hw
/-- a loop of the class that asks day by day -/
theorem firstC {P : (Nat → Int32) → Bool} {Lf : Nat → Nat → fk_T → Option (Int32 × fk_T)} {kf : fk_T → Option (Int32 × fk_T)} (h1 : ∀ n fu σ G, n ≤ 200 → CP 6 σ G → WF G → P G = true → Lf (fu + 1) n σ = some (nI n, σ)) (h2 : ∀ n fu σ G, n ≤ 200 → CP 6 σ G → WF G → P G = false → ∃ σ', FrP 6 σ σ' ∧ CP 6 σ' (dayG G) ∧ Lf (fu + 1) n σ = Lf fu (n + 1) σ') (h3 : ∀ fu σ, Lf (fu + 1) 201 σ = kf σ) : ∀ (m n fu : Nat) {σ : fk_T} {G : Nat → Int32}, CP 6 σ G → WF G → n + m = 200 → m + 1 < fu → ∃ σ', FrP 6 σ σ' ∧ Lf fu n σ = if P (endG P G m n).2 = false then kf σ' else some (nI (endG P G m n).1, σ')
  | m, n, 0, _, _, _, _, _, hf => by omega
  | 0, n, fu + 1, σ, G, h, hw, hn, hf => by
    have en : n = 200 := by omega
    subst en
    cases hp : P G
    · obtain ⟨s1, g1, g2, g3⟩ := h2 200 fu σ G (by omega) h hw hp
      match fu, hf, g3 with
      | fu + 1, _, g3 =>
        refine ⟨s1, g1, ?_⟩
        rw [g3, h3]
        show _ = if P G = false then kf s1 else some (nI 200, s1)
        rw [if_pos hp]
    · refine ⟨σ, FrP.rf _ _, ?_⟩
      rw [h1 200 fu σ G (by omega) h hw hp]
      show _ = if P G = false then kf σ else some (nI 200, σ)
      rw [if_neg (by rw [hp]; decide)]
  | m + 1, n, fu + 1, σ, G, h, hw, hn, hf => by
    unfold endG
    cases hp : P G
    · obtain ⟨s1, g1, g2, g3⟩ := h2 n fu σ G (by omega) h hw hp
      obtain ⟨s2, f2, e2⟩ := firstC h1 h2 h3 m (n + 1) fu g2 (wf_dayG hw).1 (by omega) (by omega)
      refine ⟨s2, g1.tr f2, ?_⟩
      rw [g3, e2]
      simp only [Bool.false_eq_true, if_false]
    · refine ⟨σ, FrP.rf _ _, ?_⟩
      rw [h1 n fu σ G (by omega) h hw hp]
      simp only [if_true, hp, Bool.true_eq_false, if_false]
theorem l200 : (200 : Int32).toInt = 200 := by decide
theorem n200 {n : Nat} (h : n ≤ 200) : ¬ (200 : Int32) < nI n := by rw [i_lt, nI_tI (by omega), l200]; omega
/-- both ask day by day -/
theorem QQ.first {σ : fk_T} (hI : Inv σ) {fc fm : fk_T → Option (Int32 × fk_T)} {w : Nat} (hw9 : w < 135) {lo hi : Int32} {s1 : fk_T} (hf : FrP 6 σ s1) (h1 : fc σ = if rngP w lo hi (endG (rngP w lo hi) (σ.1 27) 200 0).2 = false then (F_X4_found 3 s1).bind (fun q => some (q.1, q.2)) else some (nI (endG (rngP w lo hi) (σ.1 27) 200 0).1, s1)) (h2 : ∀ τ, WF (τ.1 27) → τ.1 27 = σ.1 27 → fm τ = (F_X5_firstOf (nI w) lo hi τ).bind (fun q => some (q.1, q.2))) : QQ fc fm σ := by
  have hw := hI.1.1
  have e27 : s1.1 27 = σ.1 27 := hf.1 27 (by omega)
  have I1 := hI.trial hf
  cases hp : rngP w lo hi (endG (rngP w lo hi) (σ.1 27) 200 0).2
  · rw [if_pos hp, c25 s1 (k := 3) (by omega)] at h1
    refine ⟨_, _, _, h1, ?_, (I1.find (k := 3) (by omega)).aside⟩
    have hx : WF ((f25 s1 3).1 27) := by rw [f25_ne _ _ (by omega), e27]; exact hw
    rw [h2 _ hx (by rw [f25_ne _ _ (by omega), e27]), M_firstOf hx rfl hw9, f25_ne _ _ (by omega), e27, if_pos hp, c31 _ (k := 3) (by omega)]
    have e : f31 (as29 (f25 s1 3)) 3 = as29 (f31 (f25 s1 3) 3) := by
      unfold f31 as29
      rw [w_ne _ _ (by omega), w_c _ _ _ (by omega), w_ne _ _ (by omega), w_ne _ _ (by omega)]
    rw [← e]
    rfl
  · rw [if_neg (by rw [hp]; decide)] at h1
    refine ⟨_, _, _, h1, ?_, I1.aside⟩
    have hx : WF (s1.1 27) := by rw [e27]; exact hw
    rw [h2 _ hx e27, M_firstOf hx rfl hw9, e27, if_neg (by rw [hp]; decide)]
    rfl
