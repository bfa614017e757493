/-! ===== promises 2 to 9, 26 ===== -/
theorem Inv.p {σ : fk_T} (h : Inv σ) : WF (σ.1 27) ∧ CP 1 σ (σ.1 27) := h.1
theorem Q_clay {σ : fk_T} (hI : Inv σ) (x : Int32) : QQ (F_X4_clay x) (F_X5_clay x) σ := by
  cases h : inR x 1 20
  · refine QQ.find hI (k := 0) (by omega) ?_ ?_
    · unfold F_X4_clay; rw [cR x 1 20 (by omega) (by omega), bS, h]; rfl
    · unfold F_X5_clay; rw [mR x 1 20 (by omega) (by omega), bS, h]; rfl
  · obtain ⟨p, e, h1, h2, hp⟩ := inR_of h
    obtain ⟨hw, hc⟩ := hI.p
    refine ⟨σ.1 27 3, fk_w σ 1 (upd (σ.1 1) 0 x), fk_w (fk_w σ 1 (upd (σ.1 1) 0 x)) 27 (upd (σ.1 27) 3 x), ?_, ?_, ?_⟩
    · unfold F_X4_clay; rw [cR x 1 20 (by omega) (by omega), bS, h]
      simp only [fk_B, fb0, Bool.true_eq_false, if_false]
      rw [hc.c0]
    · unfold F_X5_clay; rw [mR x 1 20 (by omega) (by omega), bS, h]
      simp only [fb0, Bool.true_eq_false, if_false]
      rw [M_becomes (k := 3) (nlit 3) (by omega), bS, w_ne _ _ (by omega)]
    · refine hI.mk' ((Eqo.w _ (by omega)).tr (Eqo.w _ (by omega))) ?_ ?_
      · rw [w_self]; exact hw.set (by omega) (by omega) (fun _ _ => ⟨by omega, by rw [show hb 3 = 20 from rfl]; omega⟩)
      · rw [w_self]; exact (hc.obj (i := 0) (by omega) x).fr (fun a h1 h2 => w_ne _ _ (by omega))
theorem Q_seed {σ : fk_T} (hI : Inv σ) (x : Int32) : QQ (F_X4_seed x) (F_X5_seed x) σ := by
  obtain ⟨hw, hc⟩ := hI.p
  refine ⟨σ.1 27 2, fk_w σ 1 (upd (σ.1 1) 5 x), fk_w (fk_w σ 1 (upd (σ.1 1) 5 x)) 27 (upd (σ.1 27) 2 x), ?_, ?_, ?_⟩
  · unfold F_X4_seed; simp only [fk_B]; rw [hc.c5]
  · unfold F_X5_seed; rw [M_becomes (k := 2) (nlit 2) (by omega), bS, w_ne _ _ (by omega)]
  · refine hI.mk' ((Eqo.w _ (by omega)).tr (Eqo.w _ (by omega))) ?_ ?_
    · rw [w_self]; exact hw.set (by omega) (by omega) (fun h _ => absurd rfl h)
    · rw [w_self]; exact (hc.obj (i := 5) (by omega) x).fr (fun a h1 h2 => w_ne _ _ (by omega))
theorem Q_pair {σ : fk_T} (hI : Inv σ) (x y z : Int32) : QQ (F_X4_pair x y z) (F_X5_pair x y z) σ := by
  cases h1 : inR x 0 5
  · refine QQ.find hI (k := 0) (by omega) ?_ ?_
    · unfold F_X4_pair; rw [cR x 0 5 (by omega) (by omega), bS, h1]; rfl
    · unfold F_X5_pair; rw [mR x 0 5 (by omega) (by omega), bS, h1]; rfl
  cases h2 : inR y 0 7
  · refine QQ.find hI (k := 0) (by omega) ?_ ?_
    · unfold F_X4_pair; rw [cR x 0 5 (by omega) (by omega), bS, h1]
      simp only [fb0, Bool.true_eq_false, if_false]
      rw [cR y 0 7 (by omega) (by omega), bS, h2]; rfl
    · unfold F_X5_pair; rw [mR x 0 5 (by omega) (by omega), bS, h1]
      simp only [fb0, Bool.true_eq_false, if_false]
      rw [mR y 0 7 (by omega) (by omega), bS, h2]; rfl
  cases h3 : inR z 0 7
  · refine QQ.find hI (k := 0) (by omega) ?_ ?_
    · unfold F_X4_pair; rw [cR x 0 5 (by omega) (by omega), bS, h1]
      simp only [fb0, Bool.true_eq_false, if_false]
      rw [cR y 0 7 (by omega) (by omega), bS, h2]
      simp only [Bool.true_eq_false, if_false]
      rw [cR z 0 7 (by omega) (by omega), bS, h3]; rfl
    · unfold F_X5_pair; rw [mR x 0 5 (by omega) (by omega), bS, h1]
      simp only [fb0, Bool.true_eq_false, if_false]
      rw [mR y 0 7 (by omega) (by omega), bS, h2]
      simp only [Bool.true_eq_false, if_false]
      rw [mR z 0 7 (by omega) (by omega), bS, h3]; rfl
  obtain ⟨i, e, g1, g2, hp⟩ := inR_of h1
  obtain ⟨hw, hc⟩ := hI.p
  refine ⟨σ.1 27 (7 + i), fk_w σ 2 (upd (σ.1 2) i (10 * y + z)), fk_w (fk_w σ 2 (upd (σ.1 2) i (10 * y + z))) 27 (upd (σ.1 27) (7 + i) (10 * y + z)), ?_, ?_, ?_⟩
  · unfold F_X4_pair; rw [cR x 0 5 (by omega) (by omega), bS, h1]
    simp only [fb0, Bool.true_eq_false, if_false]
    rw [cR y 0 7 (by omega) (by omega), bS, h2]
    simp only [Bool.true_eq_false, if_false]
    rw [cR z 0 7 (by omega) (by omega), bS, h3]
    simp only [Bool.true_eq_false, if_false]
    rw [fA e (by omega) (by omega), fS e (by omega) (by omega), hc.2.1 i (by omega)]
  · unfold F_X5_pair; rw [mR x 0 5 (by omega) (by omega), bS, h1]
    simp only [fb0, Bool.true_eq_false, if_false]
    rw [mR y 0 7 (by omega) (by omega), bS, h2]
    simp only [Bool.true_eq_false, if_false]
    rw [mR z 0 7 (by omega) (by omega), bS, h3]
    simp only [Bool.true_eq_false, if_false]
    rw [M_becomes (k := 7 + i) (by rw [e, nl]) (by omega), bS, w_ne _ _ (by omega)]
  · refine hI.mk' ((Eqo.w _ (by omega)).tr (Eqo.w _ (by omega))) ?_ ?_
    · rw [w_self]; exact hw.set (by omega) (by omega) (fun _ h => absurd h (by omega))
    · rw [w_self]; exact (hc.li (i := i) (by omega) _).fr (fun a h1 h2 => w_ne _ _ (by omega))
theorem QQ.same {σ : fk_T} (h : Inv σ) {fc fm : fk_T → Option (Int32 × fk_T)} {r : Int32} (h1 : fc σ = some (r, σ)) (h2 : fm σ = some (r, σ)) : QQ fc fm σ := ⟨r, σ, σ, h1, h2, h⟩
theorem Q_listed {σ : fk_T} (hI : Inv σ) (x : Int32) : QQ (F_X4_listed x) (F_X5_listed x) σ := by
  cases h1 : inR x 0 5
  · refine QQ.find hI (k := 0) (by omega) ?_ ?_
    · unfold F_X4_listed; rw [cR x 0 5 (by omega) (by omega), bS, h1]; rfl
    · unfold F_X5_listed; rw [mR x 0 5 (by omega) (by omega), bS, h1]; rfl
  obtain ⟨i, e, g1, g2, hp⟩ := inR_of h1
  obtain ⟨hw, hc⟩ := hI.p
  refine QQ.same hI (r := σ.1 27 (7 + i)) ?_ ?_
  · unfold F_X4_listed; rw [cR x 0 5 (by omega) (by omega), bS, h1]
    simp only [fb0, Bool.true_eq_false, if_false]
    rw [fA e (by omega) (by omega), hc.2.1 i (by omega)]
  · unfold F_X5_listed; rw [mR x 0 5 (by omega) (by omega), bS, h1]
    simp only [fb0, Bool.true_eq_false, if_false]
    rw [fA (j := 7 + i) (by rw [e, nl]) (by omega) (by omega)]
theorem nI_nlit {x : Int32} {w : Nat} (e : x = nI w) (v : Nat) (h1 : w < 2147483648) (h2 : v < 2147483648) (h3 : w ≠ v) : ¬ x = (OfNat.ofNat v : Int32) := fun z => h3 ((nI_inj h1 h2).mp (e.symm.trans z))
theorem C_tell_lo {c : Nat} {σ : fk_T} {G : Nat → Int32} (h : CP c σ G) {x y : Int32} {p w : Nat} (hx : x = nI p) (hy : y = nI w) (hp : p < 8) (hw : w ≤ 5) : F_X0_tell c x y σ = some (G (13 + 8 * w + p), σ) := by
  subst hx; subst hy
  unfold F_X0_tell
  rw [if_neg (by rw [i_lt, nI_tI (by omega), show (5 : Int32).toInt = 5 by decide]; omega), rT h (13 + 8 * w + p) (j := 8 * w + p) (by rw [nm, nI_add]) (by omega) (by omega)]

theorem Q_of {σ : fk_T} (hI : Inv σ) (x1 x2 : Int32) : QQ (F_X4_of x1 x2) (F_X5_of x1 x2) σ := by
  obtain ⟨hw, hc⟩ := hI.p
  have c1 : F_X0_has 1 x1 σ = some (hasG (σ.1 27) x1, σ) := C_has hc x1
  have c2 : ∀ τ, F_X4_within x2 0 9 τ = some (inR x2 0 9, τ) := cR x2 0 9 (by omega) (by omega)
  cases h1 : hasG (σ.1 27) x1
  · refine QQ.find hI (k := 0) (by omega) ?_ ?_
    · first | (simp only [F_X4_of, c1, h1, bS, fb0, if_true, if_false, Bool.true_eq_false, Bool.false_eq_true, reduceIte]; done) | (simp only [F_X4_of, c1, h1, bS, fb0, if_true, if_false, Bool.true_eq_false, Bool.false_eq_true, reduceIte]; rfl)
    · have m1 : F_X5_isPotter x1 (f25 σ 0) = some (hasG (σ.1 27) x1, (f25 σ 0)) := M_isPotter (σ := (f25 σ 0)) hw x1
      first | (simp only [F_X5_of, m1, h1, bS, fb0, if_true, if_false, Bool.true_eq_false, Bool.false_eq_true, reduceIte]; done) | (simp only [F_X5_of, m1, h1, bS, fb0, if_true, if_false, Bool.true_eq_false, Bool.false_eq_true, reduceIte]; rfl)
  cases h2 : inR x2 0 9
  · refine QQ.find hI (k := 0) (by omega) ?_ ?_
    · first | (simp only [F_X4_of, c1, c2, h1, h2, bS, fb0, if_true, if_false, Bool.true_eq_false, Bool.false_eq_true, reduceIte]; done) | (simp only [F_X4_of, c1, c2, h1, h2, bS, fb0, if_true, if_false, Bool.true_eq_false, Bool.false_eq_true, reduceIte]; rfl)
    · have m1 : F_X5_isPotter x1 (f25 σ 0) = some (hasG (σ.1 27) x1, (f25 σ 0)) := M_isPotter (σ := (f25 σ 0)) hw x1
      have m2 : ∀ τ, F_X5_in x2.toInt64 0 9 τ = some (inR x2 0 9, τ) := mR x2 0 9 (by omega) (by omega)
      first | (simp only [F_X5_of, m1, m2, h1, h2, bS, fb0, if_true, if_false, Bool.true_eq_false, Bool.false_eq_true, reduceIte]; done) | (simp only [F_X5_of, m1, m2, h1, h2, bS, fb0, if_true, if_false, Bool.true_eq_false, Bool.false_eq_true, reduceIte]; rfl)
  obtain ⟨p, e1, p1, p2⟩ := hasG_of hw h1
  obtain ⟨w, e2, w1, w2, hw9⟩ := inR_of h2
  have m1 : F_X5_isPotter x1 σ = some (hasG (σ.1 27) x1, σ) := M_isPotter (σ := σ) hw x1
  have m2 : ∀ τ, F_X5_in x2.toInt64 0 9 τ = some (inR x2 0 9, τ) := mR x2 0 9 (by omega) (by omega)
  by_cases h5 : w ≤ 5
  · refine QQ.same hI (r := σ.1 27 (13 + 8 * w + p)) ?_ ?_
    · simp only [F_X4_of, c1, c2, h1, h2, bS, fb0, if_true, if_false, Bool.true_eq_false, Bool.false_eq_true, reduceIte, fk_B]
      rw [C_tell_lo hc e1 e2 p1 h5, bS]
    · simp only [F_X5_of, m1, m2, h1, h2, bS, fb0, if_true, if_false, Bool.true_eq_false, Bool.false_eq_true, reduceIte, fk_B]
      rw [if_neg (nI_nlit e2 6 (by omega) (by omega) (by omega)), if_neg (nI_nlit e2 7 (by omega) (by omega) (by omega)), if_neg (nI_nlit e2 8 (by omega) (by omega) (by omega)), if_neg (nI_nlit e2 9 (by omega) (by omega) (by omega)), M_its e1 e2 p1 (by omega), bS]
  rcases (show w = 6 ∨ w = 7 ∨ w = 8 ∨ w = 9 by omega) with rfl | rfl | rfl | rfl
  · have e3 : x2 = 6 := e2
    subst e3
    refine QQ.same hI (r := pushG (σ.1 27) p) ?_ ?_
    · simp only [F_X4_of, c1, c2, h1, h2, bS, fb0, if_true, if_false, Bool.true_eq_false, Bool.false_eq_true, reduceIte, fk_B]
      unfold F_X0_tell
      rw [if_pos (by decide), if_pos rfl, C_pushes hc e1 p1]
      rfl
    · simp only [F_X5_of, m1, m2, h1, h2, bS, fb0, if_true, if_false, Bool.true_eq_false, Bool.false_eq_true, reduceIte, fk_B]
      rw [M_pushes hw e1 p1, bS]
  · have e3 : x2 = 7 := e2
    subst e3
    refine QQ.same hI (r := saysG (σ.1 27) p) ?_ ?_
    · simp only [F_X4_of, c1, c2, h1, h2, bS, fb0, if_true, if_false, Bool.true_eq_false, Bool.false_eq_true, reduceIte, fk_B]
      unfold F_X0_tell
      rw [if_pos (by decide), if_neg (by decide), if_pos rfl, C_says hc e1 p1]
      rfl
    · simp only [F_X5_of, m1, m2, h1, h2, bS, fb0, if_true, if_false, Bool.true_eq_false, Bool.false_eq_true, reduceIte, fk_B]
      rw [if_neg (by decide), M_says e1 p1, bS]
  · have e3 : x2 = 8 := e2
    subst e3
    refine QQ.same hI (r := coolG (σ.1 27) p) ?_ ?_
    · simp only [F_X4_of, c1, c2, h1, h2, bS, fb0, if_true, if_false, Bool.true_eq_false, Bool.false_eq_true, reduceIte, fk_B]
      unfold F_X0_tell
      rw [if_pos (by decide), if_neg (by decide), if_neg (by decide), if_pos rfl, rT hc (13 + p) (j := 0 + p) (by rw [e1, nl 0 p]) (by omega) (by omega), C_cool hw p1]
      rfl
    · simp only [F_X5_of, m1, m2, h1, h2, bS, fb0, if_true, if_false, Bool.true_eq_false, Bool.false_eq_true, reduceIte, fk_B]
      rw [if_neg (by decide), if_neg (by decide), M_cools e1 p1, bS]
  · have e3 : x2 = 9 := e2
    subst e3
    refine QQ.same hI (r := boilG (σ.1 27) p) ?_ ?_
    · simp only [F_X4_of, c1, c2, h1, h2, bS, fb0, if_true, if_false, Bool.true_eq_false, Bool.false_eq_true, reduceIte, fk_B]
      unfold F_X0_tell
      rw [if_pos (by decide), if_neg (by decide), if_neg (by decide), if_neg (by decide), rT hc (13 + p) (j := 0 + p) (by rw [e1, nl 0 p]) (by omega) (by omega), C_boil hw p1]
      rfl
    · simp only [F_X5_of, m1, m2, h1, h2, bS, fb0, if_true, if_false, Bool.true_eq_false, Bool.false_eq_true, reduceIte, fk_B]
      rw [if_neg (by decide), if_neg (by decide), if_neg (by decide), M_boils e1 p1, bS]
theorem Q_rift {σ : fk_T} (hI : Inv σ) (x1 x2 x3 : Int32) : QQ (F_X4_rift x1 x2 x3) (F_X5_rift x1 x2 x3) σ := by
  obtain ⟨hw, hc⟩ := hI.p
  have c1 : F_X0_hasTwo 1 x1 x2 σ = some (twoG (σ.1 27) x1 x2, σ) := C_hasTwo hc x1 x2
  have c2 : ∀ τ, F_X4_within x3 0 99 τ = some (inR x3 0 99, τ) := cR x3 0 99 (by omega) (by omega)
  cases h1 : twoG (σ.1 27) x1 x2
  · refine QQ.find hI (k := 0) (by omega) ?_ ?_
    · first | (simp only [F_X4_rift, c1, h1, bS, fb0, if_true, if_false, Bool.true_eq_false, Bool.false_eq_true, reduceIte]; done) | (simp only [F_X4_rift, c1, h1, bS, fb0, if_true, if_false, Bool.true_eq_false, Bool.false_eq_true, reduceIte]; rfl)
    · have m1 : F_X5_areTwo x1 x2 (f25 σ 0) = some (twoG (σ.1 27) x1 x2, (f25 σ 0)) := M_areTwo (σ := (f25 σ 0)) hw x1 x2
      first | (simp only [F_X5_rift, m1, h1, bS, fb0, if_true, if_false, Bool.true_eq_false, Bool.false_eq_true, reduceIte]; done) | (simp only [F_X5_rift, m1, h1, bS, fb0, if_true, if_false, Bool.true_eq_false, Bool.false_eq_true, reduceIte]; rfl)
  cases h2 : inR x3 0 99
  · refine QQ.find hI (k := 0) (by omega) ?_ ?_
    · first | (simp only [F_X4_rift, c1, c2, h1, h2, bS, fb0, if_true, if_false, Bool.true_eq_false, Bool.false_eq_true, reduceIte]; done) | (simp only [F_X4_rift, c1, c2, h1, h2, bS, fb0, if_true, if_false, Bool.true_eq_false, Bool.false_eq_true, reduceIte]; rfl)
    · have m1 : F_X5_areTwo x1 x2 (f25 σ 0) = some (twoG (σ.1 27) x1 x2, (f25 σ 0)) := M_areTwo (σ := (f25 σ 0)) hw x1 x2
      have m2 : ∀ τ, F_X5_in x3.toInt64 0 99 τ = some (inR x3 0 99, τ) := mR x3 0 99 (by omega) (by omega)
      first | (simp only [F_X5_rift, m1, m2, h1, h2, bS, fb0, if_true, if_false, Bool.true_eq_false, Bool.false_eq_true, reduceIte]; done) | (simp only [F_X5_rift, m1, m2, h1, h2, bS, fb0, if_true, if_false, Bool.true_eq_false, Bool.false_eq_true, reduceIte]; rfl)
  obtain ⟨a, b, e1, e2, ha, hb8, hab, ha2, hb2⟩ := twoG_of hw h1
  obtain ⟨v, e3, v1, v2, hv⟩ := inR_of h2
  obtain ⟨s1, g1, g2, g3⟩ := C_setRift (v := x3) hc e1 e2 ha hb8
  have hg := gbt_lt ha hb8
  have e27 : s1.1 27 = σ.1 27 := g3.1 27 (by omega)
  have hw1 : WF (s1.1 27) := by rw [e27]; exact hw
  have m1 : F_X5_areTwo x1 x2 s1 = some (twoG (σ.1 27) x1 x2, s1) := by rw [M_areTwo hw1, e27]
  have m2 : ∀ τ, F_X5_in x3.toInt64 0 99 τ = some (inR x3 0 99, τ) := mR x3 0 99 (by omega) (by omega)
  refine ⟨σ.1 27 (61 + gbt a b), s1, fk_w s1 27 (upd (σ.1 27) (61 + gbt a b) x3), ?_, ?_, ?_⟩
  · simp only [F_X4_rift, c1, c2, h1, h2, bS, fb0, if_true, if_false, Bool.true_eq_false, Bool.false_eq_true, reduceIte, fk_B]
    rw [C_riftOf hc e1 e2 ha hb8, bS, g1, bS]
  · simp only [F_X5_rift, m1, m2, h1, h2, bS, fb0, if_true, if_false, Bool.true_eq_false, Bool.false_eq_true, reduceIte, fk_B]
    rw [M_between e1 e2 ha hb8, bS, M_becomes rfl (by omega), bS, e27]
  · refine hI.mk' ((Eqo.p1 g3).tr (Eqo.w _ (by omega))) ?_ ?_
    · rw [w_self]; exact hw.set (by omega) (by omega) (fun _ _ => ⟨by omega, by rw [hb_99 (by omega) (by omega)]; omega⟩)
    · rw [w_self]; exact g2.fr (fun q z1 z2 => w_ne _ _ (by omega))
theorem Q_two {σ : fk_T} (hI : Inv σ) (x1 x2 x3 : Int32) : QQ (F_X4_two x1 x2 x3) (F_X5_two x1 x2 x3) σ := by
  obtain ⟨hw, hc⟩ := hI.p
  have c1 : F_X0_hasTwo 1 x1 x2 σ = some (twoG (σ.1 27) x1 x2, σ) := C_hasTwo hc x1 x2
  have c2 : ∀ τ, F_X4_within x3 0 3 τ = some (inR x3 0 3, τ) := cR x3 0 3 (by omega) (by omega)
  cases h1 : twoG (σ.1 27) x1 x2
  · refine QQ.find hI (k := 0) (by omega) ?_ ?_
    · first | (simp only [F_X4_two, c1, h1, bS, fb0, if_true, if_false, Bool.true_eq_false, Bool.false_eq_true, reduceIte]; done) | (simp only [F_X4_two, c1, h1, bS, fb0, if_true, if_false, Bool.true_eq_false, Bool.false_eq_true, reduceIte]; rfl)
    · have m1 : F_X5_areTwo x1 x2 (f25 σ 0) = some (twoG (σ.1 27) x1 x2, (f25 σ 0)) := M_areTwo (σ := (f25 σ 0)) hw x1 x2
      first | (simp only [F_X5_two, m1, h1, bS, fb0, if_true, if_false, Bool.true_eq_false, Bool.false_eq_true, reduceIte]; done) | (simp only [F_X5_two, m1, h1, bS, fb0, if_true, if_false, Bool.true_eq_false, Bool.false_eq_true, reduceIte]; rfl)
  cases h2 : inR x3 0 3
  · refine QQ.find hI (k := 0) (by omega) ?_ ?_
    · first | (simp only [F_X4_two, c1, c2, h1, h2, bS, fb0, if_true, if_false, Bool.true_eq_false, Bool.false_eq_true, reduceIte]; done) | (simp only [F_X4_two, c1, c2, h1, h2, bS, fb0, if_true, if_false, Bool.true_eq_false, Bool.false_eq_true, reduceIte]; rfl)
    · have m1 : F_X5_areTwo x1 x2 (f25 σ 0) = some (twoG (σ.1 27) x1 x2, (f25 σ 0)) := M_areTwo (σ := (f25 σ 0)) hw x1 x2
      have m2 : ∀ τ, F_X5_in x3.toInt64 0 3 τ = some (inR x3 0 3, τ) := mR x3 0 3 (by omega) (by omega)
      first | (simp only [F_X5_two, m1, m2, h1, h2, bS, fb0, if_true, if_false, Bool.true_eq_false, Bool.false_eq_true, reduceIte]; done) | (simp only [F_X5_two, m1, m2, h1, h2, bS, fb0, if_true, if_false, Bool.true_eq_false, Bool.false_eq_true, reduceIte]; rfl)
  obtain ⟨a, b, e1, e2, ha, hb8, hab, ha2, hb2⟩ := twoG_of hw h1
  obtain ⟨w, e3, w1, w2, hw9⟩ := inR_of h2
  have hg := gbt_lt ha hb8
  have m1 : F_X5_areTwo x1 x2 σ = some (twoG (σ.1 27) x1 x2, σ) := M_areTwo (σ := σ) hw x1 x2
  have m2 : ∀ τ, F_X5_in x3.toInt64 0 3 τ = some (inR x3 0 3, τ) := mR x3 0 3 (by omega) (by omega)
  rcases (show w = 0 ∨ w = 1 ∨ w = 2 ∨ w = 3 by omega) with rfl | rfl | rfl | rfl
  · have e4 : x3 = 0 := e3
    subst e4
    refine QQ.same hI (r := σ.1 27 (61 + gbt a b)) ?_ ?_
    · simp only [F_X4_two, c1, c2, h1, h2, bS, fb0, if_true, if_false, Bool.true_eq_false, Bool.false_eq_true, reduceIte, fk_B]
      rw [C_riftOf hc e1 e2 ha hb8, bS]
    · simp only [F_X5_two, m1, m2, h1, h2, bS, fb0, if_true, if_false, Bool.true_eq_false, Bool.false_eq_true, reduceIte, fk_B]
      rw [M_between e1 e2 ha hb8, bS, fA rfl (by omega) (by omega)]
  · have e4 : x3 = 1 := e3
    subst e4
    refine QQ.same hI (r := riseG (σ.1 27) (σ.1 27 3) a b) ?_ ?_
    · simp only [F_X4_two, c1, c2, h1, h2, bS, fb0, if_true, if_false, Bool.true_eq_false, Bool.false_eq_true, reduceIte, fk_B]
      rw [if_neg (by decide), C_rises hc e1 e2 ha hb8, bS, hc.c0]
    · simp only [F_X5_two, m1, m2, h1, h2, bS, fb0, if_true, if_false, Bool.true_eq_false, Bool.false_eq_true, reduceIte, fk_B]
      rw [if_neg (by decide), M_rises e1 e2 ha hb8, bS]
  · have e4 : x3 = 2 := e3
    subst e4
    refine QQ.same hI (r := leanG (σ.1 27) a b) ?_ ?_
    · simp only [F_X4_two, c1, c2, h1, h2, bS, fb0, if_true, if_false, Bool.true_eq_false, Bool.false_eq_true, reduceIte, fk_B]
      rw [if_neg (by decide), if_neg (by decide), C_leans hc e1 e2 ha hb8, bS]
    · simp only [F_X5_two, m1, m2, h1, h2, bS, fb0, if_true, if_false, Bool.true_eq_false, Bool.false_eq_true, reduceIte, fk_B]
      rw [if_neg (by decide), if_neg (by decide), M_leans hw e1 e2 ha hb8, bS]
  · have e4 : x3 = 3 := e3
    subst e4
    refine QQ.same hI (r := if flopG (riseG (σ.1 27) (σ.1 27 3) a b) (leanG (σ.1 27) a b) = false then 0 else 1) ?_ ?_
    · simp only [F_X4_two, c1, c2, h1, h2, bS, fb0, if_true, if_false, Bool.true_eq_false, Bool.false_eq_true, reduceIte, fk_B]
      rw [if_neg (by decide), if_neg (by decide), if_neg (by decide), C_rises hc e1 e2 ha hb8, bS, C_leans hc e1 e2 ha hb8, bS, C_wouldFlop, bS, hc.c0]
      split <;> rfl
    · simp only [F_X5_two, m1, m2, h1, h2, bS, fb0, if_true, if_false, Bool.true_eq_false, Bool.false_eq_true, reduceIte, fk_B]
      rw [if_neg (by decide), if_neg (by decide), if_neg (by decide), M_isFlop hw e1 e2 ha hb8, bS]
      split <;> rfl
theorem Q_go {σ : fk_T} (hI : Inv σ) (x1 : Int32) : QQ (F_X4_go x1) (F_X5_go x1) σ := by
  obtain ⟨hw, hc⟩ := hI.p
  have c1 : ∀ τ, F_X4_within x1 1 60 τ = some (inR x1 1 60, τ) := cR x1 1 60 (by omega) (by omega)
  cases h1 : inR x1 1 60
  · refine QQ.find hI (k := 0) (by omega) ?_ ?_
    · first | (simp only [F_X4_go, c1, h1, bS, fb0, if_true, if_false, Bool.true_eq_false, Bool.false_eq_true, reduceIte]; done) | (simp only [F_X4_go, c1, h1, bS, fb0, if_true, if_false, Bool.true_eq_false, Bool.false_eq_true, reduceIte]; rfl)
    · have m1 : ∀ τ, F_X5_in x1.toInt64 1 60 τ = some (inR x1 1 60, τ) := mR x1 1 60 (by omega) (by omega)
      first | (simp only [F_X5_go, m1, h1, bS, fb0, if_true, if_false, Bool.true_eq_false, Bool.false_eq_true, reduceIte]; done) | (simp only [F_X5_go, m1, h1, bS, fb0, if_true, if_false, Bool.true_eq_false, Bool.false_eq_true, reduceIte]; rfl)
  obtain ⟨n, e1, n1, n2, hn⟩ := inR_of h1
  by_cases h2 : σ.1 27 1 + x1 ≤ 99999
  · obtain ⟨s1, g1, g2, g3⟩ := C_passDays (Or.inl rfl) e1 (by omega) hc hw
    have e27 : s1.1 27 = σ.1 27 := g3.1 27 (by omega)
    have hw1 : WF (s1.1 27) := by rw [e27]; exact hw
    have m1 : ∀ τ, F_X5_in x1.toInt64 1 60 τ = some (inR x1 1 60, τ) := mR x1 1 60 (by omega) (by omega)
    refine ⟨daysG (σ.1 27) n 4, s1, fk_w s1 27 (daysG (σ.1 27) n), ?_, ?_, ?_⟩
    · simp only [F_X4_go, c1, h1, bS, fb0, if_true, if_false, Bool.true_eq_false, Bool.false_eq_true, reduceIte, fk_B]
      rw [hc.c4, if_pos h2, g1, bS, g2.c1]
    · simp only [F_X5_go, m1, h1, bS, fb0, if_true, if_false, Bool.true_eq_false, Bool.false_eq_true, reduceIte, fk_B]
      rw [fA (j := 1) (nlit 1) (by omega) (by omega), e27, if_pos h2, M_daysGo e1 (by omega) hw1, bS, fA (j := 4) (nlit 4) (by omega) (by omega), w_self, e27]
    · exact hI.mk' ((Eqo.p1 g3).tr (Eqo.w _ (by omega))) (by rw [w_self]; exact (wf_daysG n hw).1) (by rw [w_self]; exact g2.fr (fun q z1 z2 => w_ne _ _ (by omega)))
  · refine QQ.find hI (k := 4) (by omega) ?_ ?_
    · simp only [F_X4_go, c1, h1, bS, fb0, if_true, if_false, Bool.true_eq_false, Bool.false_eq_true, reduceIte, fk_B]
      rw [hc.c4, if_neg h2]
    · have m1 : ∀ τ, F_X5_in x1.toInt64 1 60 τ = some (inR x1 1 60, τ) := mR x1 1 60 (by omega) (by omega)
      simp only [F_X5_go, m1, h1, bS, fb0, if_true, if_false, Bool.true_eq_false, Bool.false_eq_true, reduceIte, fk_B]
      rw [fA (j := 1) (nlit 1) (by omega) (by omega), show (f25 σ 4).1 27 = σ.1 27 from rfl, if_neg h2]
