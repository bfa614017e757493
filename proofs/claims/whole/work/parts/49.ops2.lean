theorem Q_peace {σ : fk_T} (hI : Inv σ) (x1 x2 x3 : Int32) : QQ (F_X4_peace x1 x2 x3) (F_X5_peace x1 x2 x3) σ := by
  obtain ⟨hw, hc⟩ := hI.p
  have c1 : F_X0_hasTwo 1 x1 x2 σ = some (twoG (σ.1 27) x1 x2, σ) := C_hasTwo hc x1 x2
  have c2 : ∀ τ, F_X4_within x3 0 99 τ = some (inR x3 0 99, τ) := cR x3 0 99 (by omega) (by omega)
  cases h1 : twoG (σ.1 27) x1 x2
  · refine QQ.find hI (k := 0) (by omega) ?_ ?_
    · first | (simp only [F_X4_peace, c1, h1, bS, fb0, if_true, if_false, Bool.true_eq_false, Bool.false_eq_true, reduceIte]; done) | (simp only [F_X4_peace, c1, h1, bS, fb0, if_true, if_false, Bool.true_eq_false, Bool.false_eq_true, reduceIte]; rfl)
    · have m1 : F_X5_areTwo x1 x2 (f25 σ 0) = some (twoG (σ.1 27) x1 x2, (f25 σ 0)) := M_areTwo (σ := (f25 σ 0)) hw x1 x2
      first | (simp only [F_X5_peace, m1, h1, bS, fb0, if_true, if_false, Bool.true_eq_false, Bool.false_eq_true, reduceIte]; done) | (simp only [F_X5_peace, m1, h1, bS, fb0, if_true, if_false, Bool.true_eq_false, Bool.false_eq_true, reduceIte]; rfl)
  cases h2 : inR x3 0 99
  · refine QQ.find hI (k := 0) (by omega) ?_ ?_
    · first | (simp only [F_X4_peace, c1, c2, h1, h2, bS, fb0, if_true, if_false, Bool.true_eq_false, Bool.false_eq_true, reduceIte]; done) | (simp only [F_X4_peace, c1, c2, h1, h2, bS, fb0, if_true, if_false, Bool.true_eq_false, Bool.false_eq_true, reduceIte]; rfl)
    · have m1 : F_X5_areTwo x1 x2 (f25 σ 0) = some (twoG (σ.1 27) x1 x2, (f25 σ 0)) := M_areTwo (σ := (f25 σ 0)) hw x1 x2
      have m2 : ∀ τ, F_X5_in x3.toInt64 0 99 τ = some (inR x3 0 99, τ) := mR x3 0 99 (by omega) (by omega)
      first | (simp only [F_X5_peace, m1, m2, h1, h2, bS, fb0, if_true, if_false, Bool.true_eq_false, Bool.false_eq_true, reduceIte]; done) | (simp only [F_X5_peace, m1, m2, h1, h2, bS, fb0, if_true, if_false, Bool.true_eq_false, Bool.false_eq_true, reduceIte]; rfl)
  obtain ⟨a, b, e1, e2, ha, hb8, hab, ha2, hb2⟩ := twoG_of hw h1
  have hg := gbt_lt ha hb8
  obtain ⟨s0, b1, b2, b3⟩ := C_become (b := 6) (c := 1) (Or.inr (Or.inl rfl)) (Or.inl rfl) (by omega) hc
  refine Exists.elim (firstC (P := rngP (61 + gbt a b) 0 x3) (Lf := fun fu n τ => L_X4_peace_42 fu x1 x2 x3 (nI n) τ (fun y9 y10 y11 y12 s8 => (F_X4_found 3 s8).bind (fun q13 => some (q13.1, q13.2)))) (kf := fun s8 => (F_X4_found 3 s8).bind (fun q13 => some (q13.1, q13.2))) ?_ ?_ (fun fu τ => by rw [L_X4_peace_42, if_pos (by decide)]) 200 0 fk_N b2 hw (by omega) (by unfold fk_N; omega)) (fun s1 hs => ?_)
  · intro n fu τ G hn hτ hG hp
    have h9 := of_decide_eq_true hp
    rw [L_X4_peace_42, if_neg (n200 hn), C_riftOf hτ e1 e2 ha hb8, bS]
    dsimp only
    rw [if_neg (by rw [i_lt]; omega)]
  · intro n fu τ G hn hτ hG hp
    obtain ⟨t1, t2, t3, t4⟩ := C_pass1 (Or.inr (Or.inl rfl)) hτ hG
    refine ⟨t1, t4, t3, ?_⟩
    have hl := hG.lev (k := 61 + gbt a b) (by omega) (by omega)
    have h9 := of_decide_eq_false hp
    rw [li0] at h9
    show L_X4_peace_42 (fu + 1) x1 x2 x3 (nI n) τ _ = L_X4_peace_42 fu x1 x2 x3 (nI (n + 1)) t1 _
    rw [L_X4_peace_42, if_neg (n200 hn), C_riftOf hτ e1 e2 ha hb8, bS]
    dsimp only
    rw [if_pos (by rw [i_lt]; omega), t2, bS]
    simp only [fk_B]
    rw [nI_1]
  obtain ⟨f1, g1⟩ := hs
  refine QQ.first hI (w := 61 + gbt a b) (lo := 0) (hi := x3) (by omega) (b3.tr f1) ?_ (fun τ hτ e27 => ?_)
  · simp only [F_X4_peace, c1, c2, h1, h2, bS, fb0, if_true, if_false, Bool.true_eq_false, Bool.false_eq_true, reduceIte, fk_B]
    rw [b1, bS, show (0 : Int32) = nI 0 from rfl]
    exact g1
  · have m1 : F_X5_areTwo x1 x2 τ = some (twoG (σ.1 27) x1 x2, τ) := by rw [M_areTwo hτ, e27]
    have m2 : ∀ τ, F_X5_in x3.toInt64 0 99 τ = some (inR x3 0 99, τ) := mR x3 0 99 (by omega) (by omega)
    simp only [F_X5_peace, m1, m2, h1, h2, bS, fb0, if_true, if_false, Bool.true_eq_false, Bool.false_eq_true, reduceIte, fk_B]
    rw [M_between e1 e2 ha hb8, bS]
theorem Q_when {σ : fk_T} (hI : Inv σ) (x1 x2 : Int32) : QQ (F_X4_when x1 x2) (F_X5_when x1 x2) σ := by
  obtain ⟨hw, hc⟩ := hI.p
  have c1 : F_X0_has 1 x1 σ = some (hasG (σ.1 27) x1, σ) := C_has hc x1
  have c2 : ∀ τ, F_X4_within x2 0 9999 τ = some (inR x2 0 9999, τ) := cR x2 0 9999 (by omega) (by omega)
  cases h1 : hasG (σ.1 27) x1
  · refine QQ.find hI (k := 0) (by omega) ?_ ?_
    · first | (simp only [F_X4_when, c1, h1, bS, fb0, if_true, if_false, Bool.true_eq_false, Bool.false_eq_true, reduceIte]; done) | (simp only [F_X4_when, c1, h1, bS, fb0, if_true, if_false, Bool.true_eq_false, Bool.false_eq_true, reduceIte]; rfl)
    · have m1 : F_X5_isPotter x1 (f25 σ 0) = some (hasG (σ.1 27) x1, (f25 σ 0)) := M_isPotter (σ := (f25 σ 0)) hw x1
      first | (simp only [F_X5_when, m1, h1, bS, fb0, if_true, if_false, Bool.true_eq_false, Bool.false_eq_true, reduceIte]; done) | (simp only [F_X5_when, m1, h1, bS, fb0, if_true, if_false, Bool.true_eq_false, Bool.false_eq_true, reduceIte]; rfl)
  cases h2 : inR x2 0 9999
  · refine QQ.find hI (k := 0) (by omega) ?_ ?_
    · first | (simp only [F_X4_when, c1, c2, h1, h2, bS, fb0, if_true, if_false, Bool.true_eq_false, Bool.false_eq_true, reduceIte]; done) | (simp only [F_X4_when, c1, c2, h1, h2, bS, fb0, if_true, if_false, Bool.true_eq_false, Bool.false_eq_true, reduceIte]; rfl)
    · have m1 : F_X5_isPotter x1 (f25 σ 0) = some (hasG (σ.1 27) x1, (f25 σ 0)) := M_isPotter (σ := (f25 σ 0)) hw x1
      have m2 : ∀ τ, F_X5_in x2.toInt64 0 9999 τ = some (inR x2 0 9999, τ) := mR x2 0 9999 (by omega) (by omega)
      first | (simp only [F_X5_when, m1, m2, h1, h2, bS, fb0, if_true, if_false, Bool.true_eq_false, Bool.false_eq_true, reduceIte]; done) | (simp only [F_X5_when, m1, m2, h1, h2, bS, fb0, if_true, if_false, Bool.true_eq_false, Bool.false_eq_true, reduceIte]; rfl)
  obtain ⟨p, e1, p1, p2⟩ := hasG_of hw h1
  obtain ⟨s0, b1, b2, b3⟩ := C_become (b := 6) (c := 1) (Or.inr (Or.inl rfl)) (Or.inl rfl) (by omega) hc
  refine Exists.elim (firstC (P := rngP (45 + p) x2 9999) (Lf := fun fu n τ => L_X4_when_41 fu x1 x2 (nI n) τ (fun y9 y10 y11 s8 => (F_X4_found 3 s8).bind (fun q12 => some (q12.1, q12.2)))) (kf := fun s8 => (F_X4_found 3 s8).bind (fun q12 => some (q12.1, q12.2))) ?_ ?_ (fun fu τ => by rw [L_X4_when_41, if_pos (by decide)]) 200 0 fk_N b2 hw (by omega) (by unfold fk_N; omega)) (fun s1 hs => ?_)
  · intro n fu τ G hn hτ hG hp
    have h9 := of_decide_eq_true hp
    rw [L_X4_when_41, if_neg (n200 hn), rT (b := 6) hτ (45 + p) (j := 32 + p) (by rw [e1, nl 32 p]) (by omega) (by omega), if_neg (by rw [i_lt]; omega)]
  · intro n fu τ G hn hτ hG hp
    obtain ⟨t1, t2, t3, t4⟩ := C_pass1 (Or.inr (Or.inl rfl)) hτ hG
    refine ⟨t1, t4, t3, ?_⟩
    have hl := hG.pots (k := 45 + p) (by omega) (by omega)
    have h9 := of_decide_eq_false hp
    rw [l9999] at h9
    show L_X4_when_41 (fu + 1) x1 x2 (nI n) τ _ = L_X4_when_41 fu x1 x2 (nI (n + 1)) t1 _
    rw [L_X4_when_41, if_neg (n200 hn), rT (b := 6) hτ (45 + p) (j := 32 + p) (by rw [e1, nl 32 p]) (by omega) (by omega), if_pos (by rw [i_lt]; omega), t2, bS]
    simp only [fk_B]
    rw [nI_1]
  obtain ⟨f1, g1⟩ := hs
  refine QQ.first hI (w := 45 + p) (lo := x2) (hi := 9999) (by omega) (b3.tr f1) ?_ (fun τ hτ e27 => ?_)
  · simp only [F_X4_when, c1, c2, h1, h2, bS, fb0, if_true, if_false, Bool.true_eq_false, Bool.false_eq_true, reduceIte, fk_B]
    rw [b1, bS, show (0 : Int32) = nI 0 from rfl]
    exact g1
  · have m1 : F_X5_isPotter x1 τ = some (hasG (σ.1 27) x1, τ) := by rw [M_isPotter hτ, e27]
    have m2 : ∀ τ, F_X5_in x2.toInt64 0 9999 τ = some (inR x2 0 9999, τ) := mR x2 0 9999 (by omega) (by omega)
    simp only [F_X5_when, m1, m2, h1, h2, bS, fb0, if_true, if_false, Bool.true_eq_false, Bool.false_eq_true, reduceIte, fk_B]
    rw [e1, nl 45 p]
theorem Q_terms {σ : fk_T} (hI : Inv σ) (x1 x2 x3 : Int32) : QQ (F_X4_terms x1 x2 x3) (F_X5_terms x1 x2 x3) σ := by
  obtain ⟨hw, hc⟩ := hI.p
  have c1 : F_X0_hasTwo 1 x1 x2 σ = some (twoG (σ.1 27) x1 x2, σ) := C_hasTwo hc x1 x2
  have c2 : ∀ τ, F_X4_within x3 0 100 τ = some (inR x3 0 100, τ) := cR x3 0 100 (by omega) (by omega)
  cases h1 : twoG (σ.1 27) x1 x2
  · refine QQ.find hI (k := 0) (by omega) ?_ ?_
    · first | (simp only [F_X4_terms, c1, h1, bS, fb0, if_true, if_false, Bool.true_eq_false, Bool.false_eq_true, reduceIte]; done) | (simp only [F_X4_terms, c1, h1, bS, fb0, if_true, if_false, Bool.true_eq_false, Bool.false_eq_true, reduceIte]; rfl)
    · have m1 : F_X5_areTwo x1 x2 (f25 σ 0) = some (twoG (σ.1 27) x1 x2, (f25 σ 0)) := M_areTwo (σ := (f25 σ 0)) hw x1 x2
      first | (simp only [F_X5_terms, m1, h1, bS, fb0, if_true, if_false, Bool.true_eq_false, Bool.false_eq_true, reduceIte]; done) | (simp only [F_X5_terms, m1, h1, bS, fb0, if_true, if_false, Bool.true_eq_false, Bool.false_eq_true, reduceIte]; rfl)
  cases h2 : inR x3 0 100
  · refine QQ.find hI (k := 0) (by omega) ?_ ?_
    · first | (simp only [F_X4_terms, c1, c2, h1, h2, bS, fb0, if_true, if_false, Bool.true_eq_false, Bool.false_eq_true, reduceIte]; done) | (simp only [F_X4_terms, c1, c2, h1, h2, bS, fb0, if_true, if_false, Bool.true_eq_false, Bool.false_eq_true, reduceIte]; rfl)
    · have m1 : F_X5_areTwo x1 x2 (f25 σ 0) = some (twoG (σ.1 27) x1 x2, (f25 σ 0)) := M_areTwo (σ := (f25 σ 0)) hw x1 x2
      have m2 : ∀ τ, F_X5_in x3.toInt64 0 100 τ = some (inR x3 0 100, τ) := mR x3 0 100 (by omega) (by omega)
      first | (simp only [F_X5_terms, m1, m2, h1, h2, bS, fb0, if_true, if_false, Bool.true_eq_false, Bool.false_eq_true, reduceIte]; done) | (simp only [F_X5_terms, m1, m2, h1, h2, bS, fb0, if_true, if_false, Bool.true_eq_false, Bool.false_eq_true, reduceIte]; rfl)
  obtain ⟨a, b, e1, e2, ha, hb8, hab, ha2, hb2⟩ := twoG_of hw h1
  obtain ⟨n, e3, n1, n2, hn⟩ := inR_of h2
  have hg := gbt_lt ha hb8
  obtain ⟨s0, b1, b2, b3⟩ := C_become (b := 6) (c := 1) (Or.inr (Or.inl rfl)) (Or.inl rfl) (by omega) hc
  obtain ⟨s1, g1, g2, g3⟩ := C_passDays (Or.inr (Or.inl rfl)) e3 (by omega) b2 hw
  have fr := b3.tr g3
  have e27 : s1.1 27 = σ.1 27 := fr.1 27 (by omega)
  have hw1 : WF (s1.1 27) := by rw [e27]; exact hw
  have m1 : F_X5_areTwo x1 x2 s1 = some (twoG (σ.1 27) x1 x2, s1) := by rw [M_areTwo hw1, e27]
  have m2 : ∀ τ, F_X5_in x3.toInt64 0 100 τ = some (inR x3 0 100, τ) := mR x3 0 100 (by omega) (by omega)
  refine ⟨daysG (σ.1 27) n (61 + gbt a b), s1, as29 s1, ?_, ?_, (hI.trial fr).aside⟩
  · simp only [F_X4_terms, c1, c2, h1, h2, bS, fb0, if_true, if_false, Bool.true_eq_false, Bool.false_eq_true, reduceIte, fk_B]
    rw [b1, bS, g1, bS, C_riftOf g2 e1 e2 ha hb8, bS]
  · simp only [F_X5_terms, m1, m2, h1, h2, bS, fb0, if_true, if_false, Bool.true_eq_false, Bool.false_eq_true, reduceIte, fk_B]
    rw [M_aside, bS, M_between e1 e2 ha hb8, bS, M_behind (G := s1.1 27) (A := s1.1 29) (as_29 s1) (by rw [as_ne _ (by omega)]; exact hw1) (by rw [as_ne _ (by omega)]; exact Out.rf _) e3 (by omega) rfl (by omega), bS, as_ne _ (by omega), e27, w_id (by rw [as_ne _ (by omega), e27])]
theorem nextL {σ0 : fk_T} {G0 : Nat → Int32} (hw0 : WF G0) {d : Nat} (hd : d < 2) {k : Int32 → Int32 → fk_T → Option (Int32 × fk_T)} : ∀ (m n fu : Nat) {σ : fk_T} {G : Nat → Int32}, CP 6 σ G → WF G → CP 1 σ G0 → rngP (5 + d) (G0 (5 + d) + 1) 9999 G = false → n + m = 200 → m < fu → ∃ σ', FrP 6 σ σ' ∧ L_X4_next_28 fu (nI d) (nI (n + 1)) σ k = if rngP (5 + d) (G0 (5 + d) + 1) 9999 (endG (rngP (5 + d) (G0 (5 + d) + 1) 9999) G m n).2 = false then k (nI d) 201 σ' else some (nI (endG (rngP (5 + d) (G0 (5 + d) + 1) 9999) G m n).1, σ')
  | m, n, 0, _, _, _, _, _, _, _, hf => by omega
  | 0, n, fu + 1, σ, G, h, hw, h1, hp, hn, hf => by
    have en : n = 200 := by omega
    subst en
    refine ⟨σ, FrP.rf _ _, ?_⟩
    rw [L_X4_next_28, if_pos (by decide)]
    show _ = if rngP (5 + d) (G0 (5 + d) + 1) 9999 G = false then k (nI d) 201 σ else some (nI 200, σ)
    rw [if_pos hp]
    rfl
  | m + 1, n, fu + 1, σ, G, h, hw, h1, hp, hn, hf => by
    obtain ⟨s1, g1, g2, g3⟩ := C_pass1 (Or.inr (Or.inl rfl)) h hw
    have c1 : CP 1 s1 G0 := h1.fr (fun a z1 z2 => g3.1 a (by omega))
    have w1 := (wf_dayG hw).1
    have hr0 : 0 ≤ (G0 (5 + d)).toInt ∧ (G0 (5 + d)).toInt ≤ 9999 := by
      rcases (show d = 0 ∨ d = 1 by omega) with rfl | rfl
      · exact hw0.round
      · exact hw0.rings
    have hr1 : (dayG G (5 + d)).toInt ≤ 9999 := by
      rcases (show d = 0 ∨ d = 1 by omega) with rfl | rfl
      · exact w1.round.2
      · exact w1.rings.2
    have e1 : (G0 (5 + d) + 1).toInt = (G0 (5 + d)).toInt + 1 := by rw [ti_add (by rw [li1]; omega) (by rw [li1]; omega), li1]
    have ec : ∀ (f g : Option (Int32 × fk_T)), (if nI d = 0 then (if (s1.1 6 2) ≤ (s1.1 1 2) then f else g) else (if (s1.1 6 3) ≤ (s1.1 1 3) then f else g)) = if rngP (5 + d) (G0 (5 + d) + 1) 9999 (dayG G) = false then f else g := by
      intro f g
      have hiff : dayG G (5 + d) ≤ G0 (5 + d) ↔ rngP (5 + d) (G0 (5 + d) + 1) 9999 (dayG G) = false := by
        rw [i_le]
        constructor
        · intro z; exact decide_eq_false (by rw [e1]; omega)
        · intro z; have := of_decide_eq_false z; rw [e1, l9999] at this; omega
      rcases (show d = 0 ∨ d = 1 by omega) with rfl | rfl
      · rw [if_pos (show nI 0 = 0 from rfl), g2.c2, c1.c2]
        by_cases z : dayG G 5 ≤ G0 5
        · rw [if_pos z, if_pos (hiff.mp z)]
        · rw [if_neg z, if_neg (fun y => z (hiff.mpr y))]
      · rw [if_neg (by decide), g2.c3, c1.c3]
        by_cases z : dayG G 6 ≤ G0 6
        · rw [if_pos z, if_pos (hiff.mp z)]
        · rw [if_neg z, if_neg (fun y => z (hiff.mpr y))]
    have el : L_X4_next_28 (fu + 1) (nI d) (nI (n + 1)) σ k = if rngP (5 + d) (G0 (5 + d) + 1) 9999 (dayG G) = false then L_X4_next_28 fu (nI d) (nI (n + 1 + 1)) s1 k else some (nI (n + 1), s1) := by
      rw [L_X4_next_28, if_neg (n200 (by omega)), g1, bS]
      simp only [fk_B, show ¬ ((1 : Int32) = 0) by decide, if_false, if_true, reduceIte]
      rw [← ec, nI_1]
    unfold endG
    rw [if_neg (by rw [hp]; decide)]
    cases hq : rngP (5 + d) (G0 (5 + d) + 1) 9999 (dayG G)
    · obtain ⟨s2, f2, e2⟩ := nextL (σ0 := σ0) hw0 hd (k := k) m (n + 1) fu g2 w1 c1 hq (by omega) (by omega)
      refine ⟨s2, g3.tr f2, ?_⟩
      rw [el, if_pos hq, e2]
    · refine ⟨s1, g3, ?_⟩
      rw [el, if_neg (by rw [hq]; decide)]
      cases m with
      | zero =>
        show _ = if rngP (5 + d) (G0 (5 + d) + 1) 9999 (dayG G) = false then _ else some (nI (n + 1), s1)
        rw [if_neg (by rw [hq]; decide)]
      | succ m =>
        unfold endG
        rw [if_pos hq, if_neg (by rw [hq]; decide)]
theorem Q_next {σ : fk_T} (hI : Inv σ) (x1 : Int32) : QQ (F_X4_next x1) (F_X5_next x1) σ := by
  obtain ⟨hw, hc⟩ := hI.p
  have c1 : ∀ τ, F_X4_within x1 0 1 τ = some (inR x1 0 1, τ) := cR x1 0 1 (by omega) (by omega)
  cases h1 : inR x1 0 1
  · refine QQ.find hI (k := 0) (by omega) ?_ ?_
    · first | (simp only [F_X4_next, c1, h1, bS, fb0, if_true, if_false, Bool.true_eq_false, Bool.false_eq_true, reduceIte]; done) | (simp only [F_X4_next, c1, h1, bS, fb0, if_true, if_false, Bool.true_eq_false, Bool.false_eq_true, reduceIte]; rfl)
    · have m1 : ∀ τ, F_X5_in x1.toInt64 0 1 τ = some (inR x1 0 1, τ) := mR x1 0 1 (by omega) (by omega)
      first | (simp only [F_X5_next, m1, h1, bS, fb0, if_true, if_false, Bool.true_eq_false, Bool.false_eq_true, reduceIte]; done) | (simp only [F_X5_next, m1, h1, bS, fb0, if_true, if_false, Bool.true_eq_false, Bool.false_eq_true, reduceIte]; rfl)
  obtain ⟨d, e1, d1, d2, hd⟩ := inR_of h1
  obtain ⟨s0, b1, b2, b3⟩ := C_become (b := 6) (c := 1) (Or.inr (Or.inl rfl)) (Or.inl rfl) (by omega) hc
  have hr0 : 0 ≤ (σ.1 27 (5 + d)).toInt ∧ (σ.1 27 (5 + d)).toInt ≤ 9999 := by
    rcases (show d = 0 ∨ d = 1 by omega) with rfl | rfl
    · exact hw.round
    · exact hw.rings
  have e0 : (σ.1 27 (5 + d) + 1).toInt = (σ.1 27 (5 + d)).toInt + 1 := by rw [ti_add (by rw [li1]; omega) (by rw [li1]; omega), li1]
  obtain ⟨s1, f1, g1⟩ := nextL (σ0 := σ) hw (d := d) (by omega) (k := fun y9 y10 s8 => (F_X4_found 3 s8).bind (fun q11 => some (q11.1, q11.2))) 200 0 fk_N b2 hw (hc.fr (fun a z1 z2 => b3.1 a (by omega))) (decide_eq_false (by rw [e0]; omega)) (by omega) (by unfold fk_N; omega)
  refine QQ.first hI (w := 5 + d) (lo := σ.1 27 (5 + d) + 1) (hi := 9999) (by omega) (b3.tr f1) ?_ (fun τ hτ e27 => ?_)
  · simp only [F_X4_next, c1, h1, bS, fb0, if_true, if_false, Bool.true_eq_false, Bool.false_eq_true, reduceIte, fk_B]
    rw [b1, bS, e1]
    exact g1
  · have m1 : ∀ τ, F_X5_in x1.toInt64 0 1 τ = some (inR x1 0 1, τ) := mR x1 0 1 (by omega) (by omega)
    simp only [F_X5_next, m1, h1, bS, fb0, if_true, if_false, Bool.true_eq_false, Bool.false_eq_true, reduceIte, fk_B]
    rw [fA (j := 5 + d) (by rw [e1, nl 5 d]) (by omega) (by omega), e27, e1, nl 5 d]
