/-! ===== sheet ===== -/
theorem C_layL {s z : Nat} (hs : s < 4) (hz : z ≤ 40) {k : Int32 → Int32 → Int32 → fk_T → Option fk_T} : ∀ (m i fu : Nat) {τ : fk_T}, i + m = z → m < fu → L_X2_lay_17 fu (nI s) (nI z) (nI i) τ k = k (nI s) (nI z) (nI z) (fk_w τ 24 (fun j => if 40 * s + i ≤ j ∧ j < 40 * s + z then 0 else τ.1 24 j))
  | m, i, 0, _, _, hf => by omega
  | 0, i, fu + 1, τ, hi, _ => by
    have : i = z := by omega
    subst this
    rw [L_X2_lay_17, if_pos (by rw [i_le]; omega), w_id (by funext j; rw [if_neg (by omega)])]
  | m + 1, i, fu + 1, τ, hi, hf => by
    rw [L_X2_lay_17, if_neg (by rw [i_le, nI_tI (by omega), nI_tI (by omega)]; omega), fS (j := 40 * s + i) (by rw [nm, nI_add]) (by omega) (by omega), fB, nI_1, C_layL hs hz m (i + 1) fu (by omega) (by omega), w_w, w_self]
    congr 2
    funext j
    by_cases e : j = 40 * s + i
    · subst e; rw [if_neg (by omega), if_pos (by omega), u_self]
    · rw [u_ne _ _ e]
      by_cases e2 : 40 * s + (i + 1) ≤ j ∧ j < 40 * s + z
      · rw [if_pos e2, if_pos (by omega)]
      · rw [if_neg e2, if_neg (by omega)]
theorem M_layL {s : Nat} (hs : s < 4) {k : Int32 → Int32 → fk_T → Option (Int32 × fk_T)} : ∀ (m i fu : Nat) {τ : fk_T}, i + m = 40 → m < fu → L_X5_sheet_83 fu (nI s) (nI i) τ k = k (nI s) (nI 40) (fk_w τ 35 (fun j => if 40 * s + i ≤ j ∧ j < 40 * s + 40 then 0 else τ.1 35 j))
  | m, i, 0, _, _, hf => by omega
  | 0, i, fu + 1, τ, hi, _ => by
    have : i = 40 := by omega
    subst this
    rw [L_X5_sheet_83, if_pos (by decide), w_id (by funext j; rw [if_neg (by omega)])]
  | m + 1, i, fu + 1, τ, hi, hf => by
    rw [L_X5_sheet_83, if_neg (by rw [i_le, nI_tI (by omega), show (40 : Int32).toInt = 40 by decide]; omega), fS (j := 40 * s + i) (by rw [nm, nI_add]) (by omega) (by omega), fB, nI_1, M_layL hs m (i + 1) fu (by omega) (by omega), w_w, w_self]
    congr 2
    funext j
    by_cases e : j = 40 * s + i
    · subst e; rw [if_neg (by omega), if_pos (by omega), u_self]
    · rw [u_ne _ _ e]
      by_cases e2 : 40 * s + (i + 1) ≤ j ∧ j < 40 * s + 40
      · rw [if_pos e2, if_pos (by omega)]
      · rw [if_neg e2, if_neg (by omega)]
/-- the class's sheet, laid -/
def layC (σ : fk_T) (s z : Nat) (w : Int32) : fk_T := fk_w (fk_w (fk_w σ 22 (upd (σ.1 22) s w)) 23 (upd (σ.1 23) s (nI z))) 24 (fun j => if 40 * s + 0 ≤ j ∧ j < 40 * s + z then 0 else σ.1 24 j)
def layM (σ : fk_T) (s z : Nat) (w : Int32) : fk_T := fk_w (fk_w (fk_w σ 33 (upd (σ.1 33) s w)) 34 (upd (σ.1 34) s (nI z))) 35 (fun j => if 40 * s + 0 ≤ j ∧ j < 40 * s + 40 then 0 else σ.1 35 j)
theorem C_lay {s z : Nat} (hs : s < 4) (hz : z ≤ 40) (w : Int32) (σ : fk_T) : F_X2_lay (nI s) w (nI z) σ = some (layC σ s z w) := by
  unfold F_X2_lay
  rw [fS rfl hs (by omega), fS rfl hs (by omega), w_ne _ _ (show 23 ≠ 22 by omega)]
  refine (C_layL hs hz (k := fun y6 y7 y8 s5 => some s5) z 0 fk_N (by omega) (by unfold fk_N; omega)).trans ?_
  rw [w_ne _ _ (by omega), w_ne _ _ (by omega)]
  rfl
theorem M_lay {s z : Nat} (hs : s < 4) (w x : Int32) (hx : x = nI z) (σ : fk_T) : fk_S σ 33 4 (nI s) w (fun s3 => fk_S s3 34 4 (nI s) x (fun s11 => L_X5_sheet_83 fk_N (nI s) 0 s11 (fun y13 y14 s12 => fk_A (s12.1 34) 4 y13 (fun y15 => some (y15, s12))))) = some (nI z, layM σ s z w) := by
  rw [fS rfl hs (by omega), fS rfl hs (by omega), w_ne _ _ (show 34 ≠ 33 by omega)]
  refine (M_layL hs (k := fun y13 y14 s12 => fk_A (s12.1 34) 4 y13 (fun y15 => some (y15, s12))) 40 0 fk_N (by omega) (by unfold fk_N; omega)).trans ?_
  rw [fA rfl hs (by omega), w_ne _ _ (show 34 ≠ 35 by omega), w_self, u_self, w_ne _ _ (show 35 ≠ 34 by omega), w_ne _ _ (show 35 ≠ 33 by omega), hx]
  rfl
theorem Inv.lay {σ : fk_T} (hI : Inv σ) {s z : Nat} (hs : s < 4) (hz : z ≤ 40) {w : Int32} (hw : w = 0 ∨ w = 8 ∨ w = 16 ∨ w = 32) : Inv (layM (layC σ s z w) s z w) := by
  have r : ∀ a, a ≠ 22 → a ≠ 23 → a ≠ 24 → a ≠ 33 → a ≠ 34 → a ≠ 35 → (layM (layC σ s z w) s z w).1 a = σ.1 a := fun a h1 h2 h3 h4 h5 h6 => by
    unfold layM layC
    rw [w_ne _ _ h6, w_ne _ _ h5, w_ne _ _ h4, w_ne _ _ h3, w_ne _ _ h2, w_ne _ _ h1]
  have r22 : (layM (layC σ s z w) s z w).1 22 = upd (σ.1 22) s w := by
    unfold layM layC
    rw [w_ne _ _ (by omega), w_ne _ _ (by omega), w_ne _ _ (by omega), w_ne _ _ (by omega), w_ne _ _ (by omega), w_self]
  have r23 : (layM (layC σ s z w) s z w).1 23 = upd (σ.1 23) s (nI z) := by
    unfold layM layC
    rw [w_ne _ _ (by omega), w_ne _ _ (by omega), w_ne _ _ (by omega), w_ne _ _ (by omega), w_self]
  have r24 : (layM (layC σ s z w) s z w).1 24 = fun j => if 40 * s + 0 ≤ j ∧ j < 40 * s + z then 0 else σ.1 24 j := by
    unfold layM layC
    rw [w_ne _ _ (by omega), w_ne _ _ (by omega), w_ne _ _ (by omega), w_self]
  have q : ∀ a, a ≠ 22 → a ≠ 23 → a ≠ 24 → (layC σ s z w).1 a = σ.1 a := fun a h1 h2 h3 => by
    unfold layC
    rw [w_ne _ _ h3, w_ne _ _ h2, w_ne _ _ h1]
  have r33 : (layM (layC σ s z w) s z w).1 33 = upd (σ.1 33) s w := by
    unfold layM
    rw [w_ne _ _ (by omega), w_ne _ _ (by omega), w_self, q 33 (by omega) (by omega) (by omega)]
  have r34 : (layM (layC σ s z w) s z w).1 34 = upd (σ.1 34) s (nI z) := by
    unfold layM
    rw [w_ne _ _ (by omega), w_self, q 34 (by omega) (by omega) (by omega)]
  have r35 : (layM (layC σ s z w) s z w).1 35 = fun j => if 40 * s + 0 ≤ j ∧ j < 40 * s + 40 then 0 else σ.1 35 j := by
    unfold layM
    rw [w_self, q 35 (by omega) (by omega) (by omega)]
  refine hI.sh (fun a ha => r a (by omega) (by omega) (by omega) (by omega) (by omega) (by omega)) (fun s' hs' => ?_)
  rw [r22, r23, r24, r33, r34, r35]
  obtain ⟨u1, u2, u3, z', hz', u4, u5⟩ := hI.2.2.2.2 s' hs'
  by_cases e : s' = s
  · subst e
    rw [u_self, u_self, u_self, u_self]
    refine ⟨rfl, hw, rfl, z, hz, rfl, fun i hi => ?_⟩
    dsimp only
    rw [if_pos (by omega), if_pos (by omega)]
  · rw [u_ne _ _ e, u_ne _ _ e, u_ne _ _ e, u_ne _ _ e]
    refine ⟨u1, u2, u3, z', hz', u4, fun i hi => ?_⟩
    dsimp only
    rw [if_neg (by omega), if_neg (by omega)]
    exact u5 i hi
theorem Q_sheet {σ : fk_T} (hI : Inv σ) (x1 x2 x3 : Int32) : QQ (F_X4_sheet x1 x2 x3) (F_X5_sheet x1 x2 x3) σ := by
  have c1 : ∀ τ, F_X4_within x1 0 3 τ = some (inR x1 0 3, τ) := cR x1 0 3 (by omega) (by omega)
  have m1 : ∀ τ, F_X5_isSheet x1 τ = some (inR x1 0 3, τ) := M_isSheet x1
  have n10 : ¬ ((1 : Int32) = 0) := by decide
  have n80 : ¬ ((8 : Int32) = 0) := by decide
  have n16 : ¬ ((16 : Int32) = 0) := by decide
  have n32 : ¬ ((32 : Int32) = 0) := by decide
  have a1 : ¬ ((16 : Int32) = 8) := by decide
  have a2 : ¬ ((32 : Int32) = 8) := by decide
  have a3 : ¬ ((32 : Int32) = 16) := by decide
  cases h1 : inR x1 0 3
  · refine QQ.find hI (k := 0) (by omega) ?_ ?_
    · unfold F_X4_sheet
      simp only [c1, h1, bS, fb0, if_true]
      repeat' split
      all_goals rfl
    · simp only [F_X5_sheet, m1, h1, bS, fb0, if_true]
  by_cases hw : x2 = 0 ∨ x2 = 8 ∨ x2 = 16 ∨ x2 = 32
  · by_cases hn : 0 ≤ x3
    · by_cases hm : x3 ≤ 40
      · obtain ⟨s, e1, s1, s2, hs⟩ := inR_of h1
        obtain ⟨n, e3, hn3⟩ := toN (x := x3) (by rw [i_le, li0] at hn; exact hn)
        have n40 : n ≤ 40 := by rw [i_le, show (40 : Int32).toInt = 40 by decide] at hm; omega
        have L0 := fun (τ : fk_T) => M_lay (s := s) (z := 0) (by omega) x2 0 rfl τ
        have Ln := fun (τ : fk_T) => M_lay (s := s) (z := n) (by omega) x2 (nI n) rfl τ
        by_cases hz : x2 = 0
        · refine ⟨nI 0, layC σ s 0 x2, layM (layC σ s 0 x2) s 0 x2, ?_, ?_, hI.lay (by omega) (by omega) hw⟩
          · unfold F_X4_sheet
            rw [if_pos hz, c1, bS, h1]
            simp only [fb0, n10, hn, hm, hz, if_true, if_false, Bool.true_eq_false]
            rw [e1, show F_X2_lay (nI s) 0 0 σ = some (layC σ s 0 0) from C_lay (z := 0) (by omega) (by omega) 0 σ, bS]
            rfl
          · unfold F_X5_sheet
            rw [m1, bS, h1]
            simp only [fb0, hn, hm, hz, if_true, if_false, Bool.true_eq_false]
            rw [e1]
            rw [hz] at L0
            exact L0 _
        · refine ⟨nI n, layC σ s n x2, layM (layC σ s n x2) s n x2, ?_, ?_, hI.lay (by omega) n40 hw⟩
          · have cl := C_lay (s := s) (z := n) (by omega) n40 x2 σ
            unfold F_X4_sheet
            rcases hw with h | h | h | h
            · exact absurd h hz
            all_goals
              subst h
              simp only [c1, h1, bS, fb0, n10, n80, n16, n32, a1, a2, a3, hn, hm, if_true, if_false, Bool.true_eq_false]
              rw [e1, e3, cl, bS]
          · have lm := Ln (layC σ s n x2)
            unfold F_X5_sheet
            rw [m1, bS, h1]
            rcases hw with h | h | h | h
            · exact absurd h hz
            all_goals
              subst h
              simp only [fb0, n80, n16, n32, a1, a2, a3, hn, hm, if_true, if_false, Bool.true_eq_false]
              rw [e1, e3]
              exact lm
      · refine QQ.find hI (k := 0) (by omega) ?_ ?_
        · unfold F_X4_sheet
          rcases hw with h | h | h | h
          all_goals
            subst h
            simp only [c1, h1, bS, fb0, n10, n80, n16, n32, a1, a2, a3, hn, hm, if_true, if_false, Bool.true_eq_false]
        · unfold F_X5_sheet
          rcases hw with h | h | h | h
          all_goals
            subst h
            simp only [m1, h1, bS, fb0, n10, n80, n16, n32, a1, a2, a3, hn, hm, if_true, if_false, Bool.true_eq_false]
    · refine QQ.find hI (k := 6) (by omega) ?_ ?_
      · unfold F_X4_sheet
        rcases hw with h | h | h | h
        all_goals
          subst h
          simp only [c1, h1, bS, fb0, n10, n80, n16, n32, a1, a2, a3, hn, if_true, if_false, Bool.true_eq_false]
      · unfold F_X5_sheet
        rcases hw with h | h | h | h
        all_goals
          subst h
          simp only [m1, h1, bS, fb0, n10, n80, n16, n32, a1, a2, a3, hn, if_true, if_false, Bool.true_eq_false]
  · have b0 : ¬ x2 = 0 := fun z => hw (Or.inl z)
    have b1 : ¬ x2 = 8 := fun z => hw (Or.inr (Or.inl z))
    have b2 : ¬ x2 = 16 := fun z => hw (Or.inr (Or.inr (Or.inl z)))
    have b3 : ¬ x2 = 32 := fun z => hw (Or.inr (Or.inr (Or.inr z)))
    refine QQ.find hI (k := 0) (by omega) ?_ ?_
    · simp only [F_X4_sheet, c1, h1, bS, fb0, b0, b1, b2, b3, if_true, if_false, Bool.true_eq_false]
    · simp only [F_X5_sheet, m1, h1, bS, fb0, b0, b1, b2, b3, if_true, if_false, Bool.true_eq_false]

