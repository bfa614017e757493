/-! ===== ahead, as ===== -/
def tvG (G : Nat → Int32) (p w : Nat) : Int32 := if w = 6 then pushG G p else G (13 + 8 * w + p)
theorem C_tellA {c : Nat} {σ : fk_T} {G : Nat → Int32} (h : CP c σ G) {x y : Int32} {p w : Nat} (hx : x = nI p) (hy : y = nI w) (hp : p < 8) (hw : w ≤ 6) : F_X0_tell c x y σ = some (tvG G p w, σ) := by
  by_cases e : w = 6
  · subst e
    have e3 : y = 6 := hy
    subst e3
    unfold F_X0_tell tvG
    rw [if_pos (by decide), if_pos rfl, if_pos rfl, C_pushes h hx hp]
    rfl
  · rw [C_tell_lo h hx hy hp (by omega)]
    unfold tvG
    rw [if_neg e]
theorem M_tellA {τ : fk_T} {G A : Nat → Int32} (h29 : τ.1 29 = cpG G A) (hwf : WF (τ.1 27)) (ho : Out G (τ.1 27)) {x y : Int32} {p w : Nat} (hx : x = nI p) (hy : y = nI w) (hp : p < 8) (hw : w ≤ 6) : (if y = 6 then ((F_X5_pushes x τ).bind (fun q8 => (F_X5_copies 29 27 q8.2).bind (fun q9 => some (q8.1, q9)))) else ((F_X5_its x y τ).bind (fun q6 => (F_X5_copies 29 27 q6.2).bind (fun q7 => some (q6.1, q7))))) = some (tvG (τ.1 27) p w, fk_w τ 27 G) := by
  by_cases e : w = 6
  · subst e
    rw [if_pos (show y = 6 from hy), M_pushes hwf hx hp, bS]
    dsimp only
    rw [M_back h29 ho, bS]
    rfl
  · rw [if_neg (nI_nlit hy 6 (by omega) (by omega) e), M_its hx hy hp (by omega), bS]
    dsimp only
    rw [M_back h29 ho, bS]
    unfold tvG
    rw [if_neg e]
theorem Q_ahead {σ : fk_T} (hI : Inv σ) (x1 x2 x3 : Int32) : QQ (F_X4_ahead x1 x2 x3) (F_X5_ahead x1 x2 x3) σ := by
  obtain ⟨hw, hc⟩ := hI.p
  have c1 : F_X0_has 1 x1 σ = some (hasG (σ.1 27) x1, σ) := C_has hc x1
  have c2 : ∀ τ, F_X4_within x2 3 6 τ = some (inR x2 3 6, τ) := cR x2 3 6 (by omega) (by omega)
  have c3 : ∀ τ, F_X4_within x3 0 100 τ = some (inR x3 0 100, τ) := cR x3 0 100 (by omega) (by omega)
  have m1 : ∀ (τ : fk_T), τ.1 27 = σ.1 27 → F_X5_isPotter x1 τ = some (hasG (σ.1 27) x1, τ) := fun τ z => by rw [M_isPotter (by rw [z]; exact hw), z]
  have m2 : ∀ τ, F_X5_in x2.toInt64 3 6 τ = some (inR x2 3 6, τ) := mR x2 3 6 (by omega) (by omega)
  have m3 : ∀ τ, F_X5_in x3.toInt64 0 100 τ = some (inR x3 0 100, τ) := mR x3 0 100 (by omega) (by omega)
  by_cases g : (x2 = 1 ∨ inR x2 3 6 = true) ∧ hasG (σ.1 27) x1 = true ∧ inR x3 0 100 = true
  · obtain ⟨g2, h1, h3⟩ := g
    obtain ⟨p, e1, p1, p2⟩ := hasG_of hw h1
    obtain ⟨n, e3, n1, n2, hn⟩ := inR_of h3
    have gw : ∃ w : Nat, x2 = nI w ∧ w ≤ 6 := by
      rcases g2 with z | z
      · exact ⟨1, z, by omega⟩
      · obtain ⟨w, e, w1, w2, _⟩ := inR_of z
        exact ⟨w, e, w2⟩
    obtain ⟨w, e2, w2⟩ := gw
    obtain ⟨s0, b1, b2, b3⟩ := C_become (b := 6) (c := 1) (Or.inr (Or.inl rfl)) (Or.inl rfl) (by omega) hc
    obtain ⟨s1, g1, g4, g3⟩ := C_passDays (Or.inr (Or.inl rfl)) e3 (by omega) b2 hw
    have fr := b3.tr g3
    have e27 : s1.1 27 = σ.1 27 := fr.1 27 (by omega)
    have hw1 : WF (s1.1 27) := by rw [e27]; exact hw
    have hw2 : WF ((as29 s1).1 27) := by rw [as_ne _ (by omega)]; exact hw1
    have t1 := C_tellA g4 e1 e2 p1 w2
    have t2 := M_tellA (τ := fk_w (as29 s1) 27 (daysG ((as29 s1).1 27) n)) (G := s1.1 27) (A := s1.1 29) (by rw [w_ne _ _ (by omega)]; exact as_29 s1) (by rw [w_self]; exact (wf_daysG n hw2).1) (by rw [w_self, as_ne _ (by omega)]; exact out_daysG n hw1) e1 e2 p1 w2
    rw [w_w, w_self, w_id (σ := as29 s1) (a := 27) (g := s1.1 27) (by rw [as_ne _ (by omega)]), as_ne _ (by omega), e27] at t2
    refine ⟨tvG (daysG (σ.1 27) n) p w, s1, as29 s1, ?_, ?_, (hI.trial fr).aside⟩
    · by_cases z : x2 = 1
      · unfold F_X4_ahead
        rw [if_pos z, c1, bS, h1]
        simp only [c3, h3, bS, fb0, if_false, Bool.true_eq_false, show ¬ ((1 : Int32) = 0) by decide]
        rw [b1, bS, g1, bS, t1, bS]
      · have h2 := g2.resolve_left z
        unfold F_X4_ahead
        rw [if_neg z, c2, bS, h2]
        simp only [c1, h1, c3, h3, bS, fb0, if_false, Bool.true_eq_false, show ¬ ((1 : Int32) = 0) by decide]
        rw [b1, bS, g1, bS, t1, bS]
    · have dg := M_daysGo e3 (by omega) hw2
      rw [as_ne _ (by omega), e27] at dg
      by_cases z : x2 = 1
      · unfold F_X5_ahead
        rw [m1 s1 e27, bS, h1, if_neg (show ¬ fk_b (true, s1).1 = 0 from fbT), if_pos z]
        dsimp only
        rw [m3, bS, h3, if_neg (show ¬ fk_b (true, s1).1 = 0 from fbT)]
        dsimp only
        rw [M_aside, bS, dg, bS]
        exact t2
      · have h2 := g2.resolve_left z
        unfold F_X5_ahead
        rw [m1 s1 e27, bS, h1, if_neg (show ¬ fk_b (true, s1).1 = 0 from fbT), if_neg z]
        dsimp only
        rw [m2, bS, h2, if_neg (show ¬ fk_b (true, s1).1 = 0 from fbT)]
        dsimp only
        rw [m3, bS, h3, if_neg (show ¬ fk_b (true, s1).1 = 0 from fbT)]
        dsimp only
        rw [M_aside, bS, dg, bS]
        exact t2
  · have m1' := m1 (f25 σ 0) (f25_ne _ _ (by omega))
    refine QQ.find hI (k := 0) (by omega) ?_ ?_
    · by_cases z : x2 = 1 <;> cases h1 : hasG (σ.1 27) x1 <;> cases h2 : inR x2 3 6 <;> cases h3 : inR x3 0 100 <;> first | (exfalso; exact g ⟨Or.inl z, h1, h3⟩) | (exfalso; exact g ⟨Or.inr h2, h1, h3⟩) | (simp only [F_X4_ahead, z, c1, c2, c3, h1, h2, h3, bS, fb0, if_true, if_false, Bool.true_eq_false, Bool.false_eq_true, reduceIte, show ¬ ((1 : Int32) = 0) by decide]; done) | (simp only [F_X4_ahead, z, c1, c2, c3, h1, h2, h3, bS, fb0, if_true, if_false, Bool.true_eq_false, Bool.false_eq_true, reduceIte, show ¬ ((1 : Int32) = 0) by decide]; rfl)
    · by_cases z : x2 = 1 <;> cases h1 : hasG (σ.1 27) x1 <;> cases h2 : inR x2 3 6 <;> cases h3 : inR x3 0 100 <;> first | (exfalso; exact g ⟨Or.inl z, h1, h3⟩) | (exfalso; exact g ⟨Or.inr h2, h1, h3⟩) | (simp only [F_X5_ahead, z, m1', m2, m3, h1, h2, h3, bS, fb0, if_true, if_false, Bool.true_eq_false, Bool.false_eq_true, reduceIte]; done) | (simp only [F_X5_ahead, z, m1', m2, m3, h1, h2, h3, bS, fb0, if_true, if_false, Bool.true_eq_false, Bool.false_eq_true, reduceIte]; rfl)
/-! as -/
def undG (k q : Int32) : Bool := decide (q = 0 ∨ q = k ∨ (k = 3 ∧ q = 1) ∨ (k = 4 ∧ (q = 3 ∨ q = 1)) ∨ (k = 6 ∧ q = 2))
theorem und_s {k q : Int32} {kk : Int32 → Int32 → Int32 → fk_T → Option (Bool × fk_T)} {fu i j : Nat} {σ : fk_T} (hi : i < 7) (hk : k = nI j) (hj : j < 7) : L_X4_isOrIsUnder_4 (fu + 1) q k (nI i) σ kk = if k = q then some (true, σ) else L_X4_isOrIsUnder_4 fu q (fk_t2 j) (nI (i + 1)) σ kk := by
  rw [L_X4_isOrIsUnder_4, if_neg (by rw [i_lt, nI_tI (by omega), show (6 : Int32).toInt = 6 by decide]; omega), if_neg (by rw [hk, i_lt, nI_tI (by omega), li0]; omega), fA hk hj (by omega), fB, nI_1]
theorem und_e {q : Int32} {kk : Int32 → Int32 → Int32 → fk_T → Option (Bool × fk_T)} {fu i : Nat} {σ : fk_T} (hi : i < 7) : L_X4_isOrIsUnder_4 (fu + 1) q (-1) (nI i) σ kk = kk q (-1) (nI i) σ := by
  rw [L_X4_isOrIsUnder_4, if_neg (by rw [i_lt, nI_tI (by omega), show (6 : Int32).toInt = 6 by decide]; omega), if_pos (by decide)]
theorem C_und {k q : Int32} (hk : 0 ≤ k.toInt ∧ k.toInt ≤ 6) (hq : 0 ≤ q.toInt ∧ q.toInt ≤ 6) (σ : fk_T) : F_X4_isOrIsUnder k q σ = some (undG k q, σ) := by
  unfold F_X4_isOrIsUnder
  rw [show L_X4_isOrIsUnder_4 fk_N q k 0 σ (fun y4 y5 y6 s3 => some (false, s3)) = L_X4_isOrIsUnder_4 (4090 + 1 + 1 + 1 + 1 + 1 + 1) q k (nI 0) σ (fun y4 y5 y6 s3 => some (false, s3)) from rfl]
  rcases kind7 hk with rfl | rfl | rfl | rfl | rfl | rfl | rfl
  · rw [und_s (k := 0) (j := 0) (by omega) (nlit 0) (by omega), show fk_t2 0 = -1 from rfl, und_e (by omega)]
    rcases kind7 hq with rfl | rfl | rfl | rfl | rfl | rfl | rfl <;> rfl
  · rw [und_s (k := 1) (j := 1) (by omega) (nlit 1) (by omega), show fk_t2 1 = 0 from rfl, und_s (k := 0) (j := 0) (by omega) (nlit 0) (by omega), show fk_t2 0 = -1 from rfl, und_e (by omega)]
    rcases kind7 hq with rfl | rfl | rfl | rfl | rfl | rfl | rfl <;> rfl
  · rw [und_s (k := 2) (j := 2) (by omega) (nlit 2) (by omega), show fk_t2 2 = 0 from rfl, und_s (k := 0) (j := 0) (by omega) (nlit 0) (by omega), show fk_t2 0 = -1 from rfl, und_e (by omega)]
    rcases kind7 hq with rfl | rfl | rfl | rfl | rfl | rfl | rfl <;> rfl
  · rw [und_s (k := 3) (j := 3) (by omega) (nlit 3) (by omega), show fk_t2 3 = 1 from rfl, und_s (k := 1) (j := 1) (by omega) (nlit 1) (by omega), show fk_t2 1 = 0 from rfl, und_s (k := 0) (j := 0) (by omega) (nlit 0) (by omega), show fk_t2 0 = -1 from rfl, und_e (by omega)]
    rcases kind7 hq with rfl | rfl | rfl | rfl | rfl | rfl | rfl <;> rfl
  · rw [und_s (k := 4) (j := 4) (by omega) (nlit 4) (by omega), show fk_t2 4 = 3 from rfl, und_s (k := 3) (j := 3) (by omega) (nlit 3) (by omega), show fk_t2 3 = 1 from rfl, und_s (k := 1) (j := 1) (by omega) (nlit 1) (by omega), show fk_t2 1 = 0 from rfl, und_s (k := 0) (j := 0) (by omega) (nlit 0) (by omega), show fk_t2 0 = -1 from rfl, und_e (by omega)]
    rcases kind7 hq with rfl | rfl | rfl | rfl | rfl | rfl | rfl <;> rfl
  · rw [und_s (k := 5) (j := 5) (by omega) (nlit 5) (by omega), show fk_t2 5 = 0 from rfl, und_s (k := 0) (j := 0) (by omega) (nlit 0) (by omega), show fk_t2 0 = -1 from rfl, und_e (by omega)]
    rcases kind7 hq with rfl | rfl | rfl | rfl | rfl | rfl | rfl <;> rfl
  · rw [und_s (k := 6) (j := 6) (by omega) (nlit 6) (by omega), show fk_t2 6 = 2 from rfl, und_s (k := 2) (j := 2) (by omega) (nlit 2) (by omega), show fk_t2 2 = 0 from rfl, und_s (k := 0) (j := 0) (by omega) (nlit 0) (by omega), show fk_t2 0 = -1 from rfl, und_e (by omega)]
    rcases kind7 hq with rfl | rfl | rfl | rfl | rfl | rfl | rfl <;> rfl
def abG (k : Int32) : Int32 := if k = 3 then 1 else if k = 4 then 3 else if k = 6 then 2 else 0
theorem M_above (k : Int32) (τ : fk_T) : F_X5_above k τ = some (abG k, τ) := by
  unfold F_X5_above abG
  split
  · rfl
  · split
    · rfl
    · split <;> rfl
theorem und_iff {k q : Int32} (hk : 0 ≤ k.toInt ∧ k.toInt ≤ 6) (hq : 0 ≤ q.toInt ∧ q.toInt ≤ 6) : undG k q = true ↔ (q = 0 ∨ q = k ∨ q = abG k ∨ q = abG (abG k)) := by
  rcases kind7 hk with rfl | rfl | rfl | rfl | rfl | rfl | rfl <;> rcases kind7 hq with rfl | rfl | rfl | rfl | rfl | rfl | rfl <;> decide
theorem M_und {k q : Int32} (hk : 0 ≤ k.toInt ∧ k.toInt ≤ 6) (hq : 0 ≤ q.toInt ∧ q.toInt ≤ 6) (r : Int32) (τ : fk_T) : (if q = 0 then (some (r, τ)) else (if q = k then (some (r, τ)) else ((F_X5_above k τ).bind (fun q8 => if q = q8.1 then (some (r, q8.2)) else ((F_X5_above k q8.2).bind (fun q9 => (F_X5_above q9.1 q9.2).bind (fun q10 => if q = q10.1 then (some (r, q10.2)) else ((F_X5_finds 2 q10.2).bind (fun q11 => some (q11.1, q11.2)))))))))) = if undG k q = true then some (r, τ) else (F_X5_finds 2 τ).bind (fun q11 => some (q11.1, q11.2)) := by
  have hi := und_iff hk hq
  rw [M_above, bS]
  dsimp only
  rw [M_above, bS]
  dsimp only
  rw [M_above, bS]
  dsimp only
  by_cases a1 : q = 0
  · rw [if_pos a1, if_pos (hi.mpr (Or.inl a1))]
  rw [if_neg a1]
  by_cases a2 : q = k
  · rw [if_pos a2, if_pos (hi.mpr (Or.inr (Or.inl a2)))]
  rw [if_neg a2]
  by_cases a3 : q = abG k
  · rw [if_pos a3, if_pos (hi.mpr (Or.inr (Or.inr (Or.inl a3))))]
  rw [if_neg a3]
  by_cases a4 : q = abG (abG k)
  · rw [if_pos a4, if_pos (hi.mpr (Or.inr (Or.inr (Or.inr a4))))]
  rw [if_neg a4, if_neg (fun z => (hi.mp z).elim a1 (fun h => h.elim a2 (fun h => h.elim a3 a4)))]

theorem Q_as {σ : fk_T} (hI : Inv σ) (x1 x2 : Int32) : QQ (F_X4_as x1 x2) (F_X5_as x1 x2) σ := by
  obtain ⟨hw, hc⟩ := hI.p
  have c1 : ∀ τ, F_X4_within x1 0 9 τ = some (inR x1 0 9, τ) := cR x1 0 9 (by omega) (by omega)
  have c2 : ∀ τ, F_X4_within x2 0 6 τ = some (inR x2 0 6, τ) := cR x2 0 6 (by omega) (by omega)
  cases h1 : inR x1 0 9
  · refine QQ.find hI (k := 0) (by omega) ?_ ?_
    · first | (simp only [F_X4_as, c1, h1, bS, fb0, if_true, if_false, Bool.true_eq_false, Bool.false_eq_true, reduceIte]; done) | (simp only [F_X4_as, c1, h1, bS, fb0, if_true, if_false, Bool.true_eq_false, Bool.false_eq_true, reduceIte]; rfl)
    · have m1 : ∀ τ, F_X5_in x1.toInt64 0 9 τ = some (inR x1 0 9, τ) := mR x1 0 9 (by omega) (by omega)
      first | (simp only [F_X5_as, m1, h1, bS, fb0, if_true, if_false, Bool.true_eq_false, Bool.false_eq_true, reduceIte]; done) | (simp only [F_X5_as, m1, h1, bS, fb0, if_true, if_false, Bool.true_eq_false, Bool.false_eq_true, reduceIte]; rfl)
  cases h2 : inR x2 0 6
  · refine QQ.find hI (k := 0) (by omega) ?_ ?_
    · first | (simp only [F_X4_as, c1, c2, h1, h2, bS, fb0, if_true, if_false, Bool.true_eq_false, Bool.false_eq_true, reduceIte]; done) | (simp only [F_X4_as, c1, c2, h1, h2, bS, fb0, if_true, if_false, Bool.true_eq_false, Bool.false_eq_true, reduceIte]; rfl)
    · have m1 : ∀ τ, F_X5_in x1.toInt64 0 9 τ = some (inR x1 0 9, τ) := mR x1 0 9 (by omega) (by omega)
      have m2 : ∀ τ, F_X5_in x2.toInt64 0 6 τ = some (inR x2 0 6, τ) := mR x2 0 6 (by omega) (by omega)
      first | (simp only [F_X5_as, m1, m2, h1, h2, bS, fb0, if_true, if_false, Bool.true_eq_false, Bool.false_eq_true, reduceIte]; done) | (simp only [F_X5_as, m1, m2, h1, h2, bS, fb0, if_true, if_false, Bool.true_eq_false, Bool.false_eq_true, reduceIte]; rfl)
  obtain ⟨i, e1, i1, i2, hi⟩ := inR_of h1
  have q2 := of_decide_eq_true h2
  have m1 : ∀ τ, F_X5_in x1.toInt64 0 9 τ = some (inR x1 0 9, τ) := mR x1 0 9 (by omega) (by omega)
  have m2 : ∀ τ, F_X5_in x2.toInt64 0 6 τ = some (inR x2 0 6, τ) := mR x2 0 6 (by omega) (by omega)
  have hs := hc.2.2.2.2 i (by omega)
  have hn := hw.n
  have hv := hw.2 i (by omega)
  by_cases hz : σ.1 27 (125 + i) = 0
  · have hb : hasG (σ.1 27) (σ.1 5 i) = false := decide_eq_false (by rw [(sp_m1 hs).mpr hz, lim1]; omega)
    refine QQ.find hI (k := 5) (by omega) ?_ ?_
    · simp only [F_X4_as, c1, c2, h1, h2, bS, fb0, if_true, if_false, Bool.true_eq_false, Bool.false_eq_true, reduceIte]
      rw [fA e1 (by omega) (by omega), C_has hc, bS, hb]
      simp only [bS, fb0, if_true, if_false, Bool.true_eq_false, Bool.false_eq_true, reduceIte]
    · simp only [F_X5_as, m1, m2, h1, h2, bS, fb0, if_true, if_false, Bool.true_eq_false, Bool.false_eq_true, reduceIte]
      rw [fA (j := 125 + i) (by rw [e1, nl]) (by omega) (by omega), f25_ne _ _ (by omega), if_pos hz]
  · have hv0 : (σ.1 27 (125 + i)).toInt ≠ 0 := fun z => hz (i_eq.mpr (by rw [z, li0]))
    have e5 : σ.1 5 i = σ.1 27 (125 + i) - 1 := by rw [← hs, Int32.add_sub_cancel]
    have e6 : (σ.1 27 (125 + i) - 1).toInt = (σ.1 27 (125 + i)).toInt - 1 := by rw [ti_sub (by rw [li1]; omega) (by rw [li1]; omega), li1]
    have hb : hasG (σ.1 27) (σ.1 27 (125 + i) - 1) = true := decide_eq_true (by rw [e6]; omega)
    obtain ⟨p, ep, p1, p2⟩ := hasG_of hw hb
    have hk := hw.kind p1
    have ec : F_X4_as x1 x2 σ = if undG (σ.1 27 (13 + p)) x2 = true then some (nI p, σ) else (F_X4_found 2 σ).bind (fun q => some (q.1, q.2)) := by
      simp only [F_X4_as, c1, c2, h1, h2, bS, fb0, if_true, if_false, Bool.true_eq_false, Bool.false_eq_true, reduceIte]
      rw [fA e1 (by omega) (by omega), C_has hc, bS, e5, hb]
      simp only [bS, fb0, if_true, if_false, Bool.true_eq_false, Bool.false_eq_true, reduceIte]
      rw [rT hc (13 + p) (j := 0 + p) (by rw [ep, nl]) (by omega) (by omega), C_und hk (by omega), bS, ep]
      cases undG (σ.1 27 (13 + p)) x2 <;> simp only [bS, fb0, if_true, if_false, Bool.true_eq_false, Bool.false_eq_true, reduceIte]
    have em : ∀ (τ : fk_T), τ.1 27 = σ.1 27 → F_X5_as x1 x2 τ = if undG (σ.1 27 (13 + p)) x2 = true then some (nI p, τ) else (F_X5_finds 2 τ).bind (fun q => some (q.1, q.2)) := fun τ z => by
      simp only [F_X5_as, m1, m2, h1, h2, bS, fb0, if_true, if_false, Bool.true_eq_false, Bool.false_eq_true, reduceIte]
      rw [fA (j := 125 + i) (by rw [e1, nl]) (by omega) (by omega), z, if_neg hz, fA (j := 125 + i) (by rw [e1, nl]) (by omega) (by omega), fB, ep, M_its (a := p) (b := 0) rfl (nlit 0) p1 (by omega), bS, z]
      exact M_und hk (by omega) _ _
    cases hu : undG (σ.1 27 (13 + p)) x2
    · refine QQ.find hI (k := 2) (by omega) ?_ ?_
      · rw [ec, if_neg (by rw [hu]; decide)]
      · rw [em _ (f25_ne _ _ (by omega)), if_neg (by rw [hu]; decide)]
    · exact QQ.same hI (r := nI p) (by rw [ec, if_pos hu]) (by rw [em σ rfl, if_pos hu])
