/-! ===== hold, potter, change, ahead, as ===== -/
theorem WF.spot {G : Nat → Int32} (h : WF G) {i : Nat} {x : Int32} (hi : i < 10) (hx : 0 ≤ x.toInt ∧ x.toInt ≤ (G 0).toInt) : WF (upd G (125 + i) x) := by
  refine ⟨fun k h1 h2 h3 => by rw [u_ne _ _ (by omega)]; exact h.1 k h1 h2 h3, fun j hj => ?_⟩
  rw [u_ne _ _ (show 0 ≠ 125 + i by omega)]
  by_cases e : j = i
  · subst e; rw [u_self]; exact hx
  · rw [u_ne _ _ (by omega)]; exact h.2 j hj
theorem tf (σ : fk_T) : ¬ (true, σ).1 = false := by intro z; cases z
theorem mR' (v : Int32) (b : Nat) (hb9 : b < 2147483648) (σ : fk_T) : F_X5_in v.toInt64 0 ((nI b).toInt64) σ = some (inR v 0 b, σ) := by
  rw [M_in, lL0, Int32.toInt_toInt64, Int32.toInt_toInt64, nI_tI hb9]; rfl
theorem Q_hold {σ : fk_T} (hI : Inv σ) (x1 x2 : Int32) : QQ (F_X4_hold x1 x2) (F_X5_hold x1 x2) σ := by
  obtain ⟨hw, hc⟩ := hI.p
  have c1 : ∀ τ, F_X4_within x1 0 9 τ = some (inR x1 0 9, τ) := cR x1 0 9 (by omega) (by omega)
  cases h1 : inR x1 0 9
  · refine QQ.find hI (k := 0) (by omega) ?_ ?_
    · first | (simp only [F_X4_hold, c1, h1, bS, fb0, if_true, if_false, Bool.true_eq_false, Bool.false_eq_true, reduceIte]; done) | (simp only [F_X4_hold, c1, h1, bS, fb0, if_true, if_false, Bool.true_eq_false, Bool.false_eq_true, reduceIte]; rfl)
    · have m1 : ∀ τ, F_X5_in x1.toInt64 0 9 τ = some (inR x1 0 9, τ) := mR x1 0 9 (by omega) (by omega)
      first | (simp only [F_X5_hold, m1, h1, bS, fb0, if_true, if_false, Bool.true_eq_false, Bool.false_eq_true, reduceIte]; done) | (simp only [F_X5_hold, m1, h1, bS, fb0, if_true, if_false, Bool.true_eq_false, Bool.false_eq_true, reduceIte]; rfl)
  obtain ⟨i, e1, i1, i2, hi⟩ := inR_of h1
  have m1 : ∀ τ, F_X5_in x1.toInt64 0 9 τ = some (inR x1 0 9, τ) := mR x1 0 9 (by omega) (by omega)
  have hn := hw.n
  have e0 : (σ.1 27 0 - 1).toInt = (σ.1 27 0).toInt - 1 := by rw [ti_sub (by rw [li1]; omega) (by rw [li1]; omega), li1]
  have m2 : ∀ τ, F_X5_in x2.toInt64 (-1) ((σ.1 27 0 - 1).toInt64) τ = some (decide (-1 ≤ x2.toInt ∧ x2.toInt ≤ (σ.1 27 0).toInt - 1), τ) := fun τ => by rw [M_in, lLm1, Int32.toInt_toInt64, Int32.toInt_toInt64, e0]
  have hx : (x2 = -1 ∨ hasG (σ.1 27) x2 = true) ↔ (-1 ≤ x2.toInt ∧ x2.toInt ≤ (σ.1 27 0).toInt - 1) := by
    constructor
    · rintro (z | z)
      · rw [z, lim1]; omega
      · have := of_decide_eq_true z; omega
    · intro z
      by_cases y : x2.toInt = -1
      · exact Or.inl (i_eq.mpr (by rw [y, lim1]))
      · exact Or.inr (decide_eq_true (by omega))
  by_cases hg : x2 = -1 ∨ hasG (σ.1 27) x2 = true
  · have hg2 := hx.mp hg
    have e3 : (x2 + 1).toInt = x2.toInt + 1 := by rw [ti_add (by rw [li1]; omega) (by rw [li1]; omega), li1]
    refine ⟨1, fk_w σ 5 (upd (σ.1 5) i x2), fk_w (fk_w σ 5 (upd (σ.1 5) i x2)) 27 (upd (σ.1 27) (125 + i) (x2 + 1)), ?_, ?_, ?_⟩
    · unfold F_X4_hold
      rw [c1, bS, h1]
      by_cases y : x2 = -1
      · rw [if_neg (show ¬ fk_b (true, σ).1 = 0 from fbT), if_pos y, fS e1 (by omega) (by omega)]
      · rw [if_neg (show ¬ fk_b (true, σ).1 = 0 from fbT), if_neg y]
        dsimp only
        rw [C_has hc x2, bS, hg.resolve_left y, if_neg (show ¬ fk_b (true, σ).1 = 0 from fbT), fS e1 (by omega) (by omega)]
    · unfold F_X5_hold
      rw [m1, bS, h1, if_neg (show ¬ fk_b (true, fk_w σ 5 (upd (σ.1 5) i x2)).1 = 0 from fbT), rdG 0 (by omega), w_ne _ _ (by omega)]
      dsimp only
      rw [m2, bS, decide_eq_true hg2, if_neg (show ¬ fk_b (true, fk_w σ 5 (upd (σ.1 5) i x2)).1 = 0 from fbT), fS (j := 125 + i) (by rw [e1, nl]) (by omega) (by omega), w_ne _ _ (by omega)]
    · refine hI.mk' ((Eqo.w _ (by omega)).tr (Eqo.w _ (by omega))) ?_ ?_
      · rw [w_self]; exact hw.spot (by omega) (by omega)
      · rw [w_self]; exact (hc.sp (i := i) (by omega) x2).fr (fun a h1 h2 => w_ne _ _ (by omega))
  · refine QQ.find hI (k := 0) (by omega) ?_ ?_
    · unfold F_X4_hold
      rw [c1, bS, h1, if_neg (show ¬ fk_b (true, σ).1 = 0 from fbT), if_neg (fun y => hg (Or.inl y))]
      dsimp only
      rw [C_has hc x2, bS, Bool.eq_false_iff.mpr (fun y => hg (Or.inr y)), if_pos (show fk_b (false, σ).1 = 0 from rfl)]
    · unfold F_X5_hold
      rw [m1, bS, h1, if_neg (show ¬ fk_b (true, f25 σ 0).1 = 0 from fbT), rdG 0 (by omega), f25_ne _ _ (by omega)]
      dsimp only
      rw [m2, bS, decide_eq_false (fun y => hg (hx.mpr y)), if_pos (show fk_b (false, f25 σ 0).1 = 0 from rfl)]
/-! a new potter -/
def newG (G : Nat → Int32) (p : Nat) (k h c y : Int32) : Nat → Int32 := fun j => if j = 0 then G 0 + 1 else if j = 13 + p then k else if j = 21 + p then h else if j = 29 + p then c else if j = 37 + p then y else if j = 45 + p then 0 else if j = 53 + p then 0 else G j
theorem wf_newG {G : Nat → Int32} (hw : WF G) {p : Nat} (hp : p < 8) (hG : G 0 = nI p) {k h c y : Int32} (hk : 0 ≤ k.toInt ∧ k.toInt ≤ 6) (hh : 0 ≤ h.toInt ∧ h.toInt ≤ 99) (hc : 0 ≤ c.toInt ∧ c.toInt ≤ 99) (hy : 0 ≤ y.toInt ∧ y.toInt ≤ 99) : WF (newG G p k h c y) := by
  have e0 : (G 0).toInt = p := by rw [hG, nI_tI (by omega)]
  have e1 : (G 0 + 1).toInt = (p : Int) + 1 := by rw [ti_add (by rw [li1]; omega) (by rw [li1]; omega), li1, e0]
  have z0 : newG G p k h c y 0 = G 0 + 1 := rfl
  refine ⟨fun q h1 h2 h3 => ?_, fun j hj => ?_⟩
  · unfold newG
    by_cases a0 : q = 0
    · subst a0; rw [if_pos rfl, e1]; exact ⟨by omega, by rw [show hb 0 = 8 from rfl]; omega⟩
    rw [if_neg a0]
    by_cases a1 : q = 13 + p
    · rw [if_pos a1, a1, hb_kind hp]; exact hk
    rw [if_neg a1]
    by_cases a2 : q = 21 + p
    · rw [if_pos a2, a2, hb_99 (by omega) (by omega)]; exact hh
    rw [if_neg a2]
    by_cases a3 : q = 29 + p
    · rw [if_pos a3, a3, hb_99 (by omega) (by omega)]; exact hc
    rw [if_neg a3]
    by_cases a4 : q = 37 + p
    · rw [if_pos a4, a4, hb_99 (by omega) (by omega)]; exact hy
    rw [if_neg a4]
    by_cases a5 : q = 45 + p
    · rw [if_pos a5, li0]; exact ⟨by omega, hb_nn q⟩
    rw [if_neg a5]
    by_cases a6 : q = 53 + p
    · rw [if_pos a6, li0]; exact ⟨by omega, hb_nn q⟩
    rw [if_neg a6]
    exact hw.1 q h1 h2 h3
  · have h4 := hw.2 j hj
    rw [z0, e1]
    unfold newG
    rw [if_neg (by omega), if_neg (by omega), if_neg (by omega), if_neg (by omega), if_neg (by omega), if_neg (by omega), if_neg (by omega)]
    omega
theorem C_addPotter {c : Nat} {σ : fk_T} {G : Nat → Int32} (h : CP c σ G) {p : Nat} (hp : p < 8) (hG : G 0 = nI p) (x1 x2 x3 x4 : Int32) : ∃ σ', F_X0_addPotter c x1 x2 x3 x4 σ = some (nI p, σ') ∧ CP c σ' (newG G p x1 x2 x3 x4) ∧ FrP c σ σ' := by
  unfold F_X0_addPotter
  rw [fB, h.c6, hG]
  rw [fS (j := 0 + p) (nl 0 p) (by omega) (by omega), fS (j := 8 + p) (nl 8 p) (by omega) (by omega), fS (j := 16 + p) (nl 16 p) (by omega) (by omega), fS (j := 24 + p) (nl 24 p) (by omega) (by omega), fS (j := 32 + p) (nl 32 p) (by omega) (by omega), fS (j := 40 + p) (nl 40 p) (by omega) (by omega), fB]
  have d1 := h.trm (i := 0 + p) (m := 13 + p) (by omega) (by omega) x1
  have d2 := d1.trm (i := 8 + p) (m := 21 + p) (by omega) (by omega) x2
  have d3 := d2.trm (i := 16 + p) (m := 29 + p) (by omega) (by omega) x3
  have d4 := d3.trm (i := 24 + p) (m := 37 + p) (by omega) (by omega) x4
  have d5 := d4.trm (i := 32 + p) (m := 45 + p) (by omega) (by omega) 0
  have d6 := d5.trm (i := 40 + p) (m := 53 + p) (by omega) (by omega) 0
  have d7 := d6.obj (i := 6) (by omega) (nI p + 1)
  refine ⟨_, rfl, ?_, ?_⟩
  · rw [d6.c6, show upd (upd (upd (upd (upd (upd G (13 + p) x1) (21 + p) x2) (29 + p) x3) (37 + p) x4) (45 + p) 0) (53 + p) 0 0 = nI p by rw [u_ne _ _ (by omega), u_ne _ _ (by omega), u_ne _ _ (by omega), u_ne _ _ (by omega), u_ne _ _ (by omega), u_ne _ _ (by omega), hG]]
    refine d7.cong (fun k hk => ?_)
    rw [show ob 6 = 0 from rfl]
    unfold newG upd
    rw [hG]
    repeat' split
    all_goals first | rfl | (exfalso; omega)
  · exact ((((((FrP.w _ (by omega)).tr (FrP.w _ (by omega))).tr (FrP.w _ (by omega))).tr (FrP.w _ (by omega))).tr (FrP.w _ (by omega))).tr (FrP.w _ (by omega))).tr (FrP.w _ (by omega))
theorem M_comL {p : Nat} (hp : p < 8) {x1 x2 : Int32} {σ : fk_T} {k : Int32 → Int32 → Int32 → Int32 → fk_T → Option (Int32 × fk_T)} : L_X5_comes_10 fk_N x1 x2 (nI p) 0 σ k = k x1 x2 (nI p) (nI 6) (fk_w σ 27 (upd (upd (upd (upd (upd (upd (σ.1 27) (13 + p) 0) (21 + p) 0) (29 + p) 0) (37 + p) 0) (45 + p) 0) (53 + p) 0)) := by
  have st : ∀ (i fu : Nat) (τ : fk_T), i < 6 → L_X5_comes_10 (fu + 1) x1 x2 (nI p) (nI i) τ k = L_X5_comes_10 fu x1 x2 (nI p) (nI (i + 1)) (fk_w τ 27 (upd (τ.1 27) (13 + 8 * i + p) 0)) k := fun i fu τ hi => by
    rw [L_X5_comes_10, if_neg (by rw [i_lt, nI_tI (by omega), show (5 : Int32).toInt = 5 by decide]; omega), M_sets rfl rfl hp hi, bS, fB, nI_1]
  rw [show L_X5_comes_10 fk_N x1 x2 (nI p) 0 σ k = L_X5_comes_10 (4089 + 1 + 1 + 1 + 1 + 1 + 1 + 1) x1 x2 (nI p) (nI 0) σ k from rfl, st 0 _ _ (by omega), st 1 _ _ (by omega), st 2 _ _ (by omega), st 3 _ _ (by omega), st 4 _ _ (by omega), st 5 _ _ (by omega), L_X5_comes_10, if_pos (by decide)]
  simp only [w_w, w_self]
theorem M_comes {p : Nat} (hp : p < 8) {x1 x2 : Int32} {σ : fk_T} (hG : σ.1 27 0 = nI p) : F_X5_comes x1 x2 σ = some (nI p, fk_w σ 27 (newG (σ.1 27) p x1 x2 20 0)) := by
  unfold F_X5_comes
  rw [rdG 0 (by omega), hG, M_comL hp, M_sets (a := p) (b := 0) rfl (nlit 0) hp (by omega), bS, M_sets (a := p) (b := 1) rfl (nlit 1) hp (by omega), bS, M_sets (a := p) (b := 2) rfl (nlit 2) hp (by omega), bS, rdG 0 (by omega), fS (j := 0) (nlit 0) (by omega) (by omega)]
  simp only [w_w, w_self]
  congr 3
  funext j
  rw [show 13 + 8 * 0 + p = 13 + p by omega, show 13 + 8 * 1 + p = 21 + p by omega, show 13 + 8 * 2 + p = 29 + p by omega]
  unfold newG
  by_cases a0 : j = 0
  · subst a0
    rw [u_self, if_pos rfl]
    congr 1
    simp only [u_ne _ _ (show 0 ≠ 13 + p by omega), u_ne _ _ (show 0 ≠ 21 + p by omega), u_ne _ _ (show 0 ≠ 29 + p by omega), u_ne _ _ (show 0 ≠ 37 + p by omega), u_ne _ _ (show 0 ≠ 45 + p by omega), u_ne _ _ (show 0 ≠ 53 + p by omega)]
  · rw [u_ne _ _ a0, if_neg a0]
    unfold upd
    repeat' split
    all_goals first | rfl | (exfalso; omega)
theorem Q_potter {σ : fk_T} (hI : Inv σ) (x1 x2 : Int32) : QQ (F_X4_potter x1 x2) (F_X5_potter x1 x2) σ := by
  obtain ⟨hw, hc⟩ := hI.p
  have c1 : ∀ τ, F_X4_within x1 0 6 τ = some (inR x1 0 6, τ) := cR x1 0 6 (by omega) (by omega)
  have c2 : ∀ τ, F_X4_within x2 0 99 τ = some (inR x2 0 99, τ) := cR x2 0 99 (by omega) (by omega)
  cases h1 : inR x1 0 6
  · refine QQ.find hI (k := 0) (by omega) ?_ ?_
    · first | (simp only [F_X4_potter, c1, h1, bS, fb0, if_true, if_false, Bool.true_eq_false, Bool.false_eq_true, reduceIte]; done) | (simp only [F_X4_potter, c1, h1, bS, fb0, if_true, if_false, Bool.true_eq_false, Bool.false_eq_true, reduceIte]; rfl)
    · have m1 : ∀ τ, F_X5_in x1.toInt64 0 6 τ = some (inR x1 0 6, τ) := mR x1 0 6 (by omega) (by omega)
      first | (simp only [F_X5_potter, m1, h1, bS, fb0, if_true, if_false, Bool.true_eq_false, Bool.false_eq_true, reduceIte]; done) | (simp only [F_X5_potter, m1, h1, bS, fb0, if_true, if_false, Bool.true_eq_false, Bool.false_eq_true, reduceIte]; rfl)
  cases h2 : inR x2 0 99
  · refine QQ.find hI (k := 0) (by omega) ?_ ?_
    · first | (simp only [F_X4_potter, c1, c2, h1, h2, bS, fb0, if_true, if_false, Bool.true_eq_false, Bool.false_eq_true, reduceIte]; done) | (simp only [F_X4_potter, c1, c2, h1, h2, bS, fb0, if_true, if_false, Bool.true_eq_false, Bool.false_eq_true, reduceIte]; rfl)
    · have m1 : ∀ τ, F_X5_in x1.toInt64 0 6 τ = some (inR x1 0 6, τ) := mR x1 0 6 (by omega) (by omega)
      have m2 : ∀ τ, F_X5_in x2.toInt64 0 99 τ = some (inR x2 0 99, τ) := mR x2 0 99 (by omega) (by omega)
      first | (simp only [F_X5_potter, m1, m2, h1, h2, bS, fb0, if_true, if_false, Bool.true_eq_false, Bool.false_eq_true, reduceIte]; done) | (simp only [F_X5_potter, m1, m2, h1, h2, bS, fb0, if_true, if_false, Bool.true_eq_false, Bool.false_eq_true, reduceIte]; rfl)
  obtain ⟨n1, n2, n3⟩ := nG_of hw
  have m1 : ∀ τ, F_X5_in x1.toInt64 0 6 τ = some (inR x1 0 6, τ) := mR x1 0 6 (by omega) (by omega)
  have m2 : ∀ τ, F_X5_in x2.toInt64 0 99 τ = some (inR x2 0 99, τ) := mR x2 0 99 (by omega) (by omega)
  have q1 := of_decide_eq_true h1
  have q2 := of_decide_eq_true h2
  by_cases hf : nG (σ.1 27) = 8
  · refine QQ.find hI (k := 1) (by omega) ?_ ?_
    · simp only [F_X4_potter, c1, c2, h1, h2, bS, fb0, if_true, if_false, Bool.true_eq_false, Bool.false_eq_true, reduceIte]
      unfold F_X0_isFull
      rw [hc.c6, n1, hf, if_neg (by decide), bS, if_neg (tf σ)]
    · simp only [F_X5_potter, m1, m2, h1, h2, bS, fb0, if_true, if_false, Bool.true_eq_false, Bool.false_eq_true, reduceIte]
      rw [rdG 0 (by omega), f25_ne _ _ (by omega), n1, hf, if_pos (by decide)]
  · obtain ⟨s1, g1, g2, g3⟩ := C_addPotter hc (by omega : nG (σ.1 27) < 8) n1 x1 x2 20 0
    have e27 : s1.1 27 = σ.1 27 := g3.1 27 (by omega)
    refine ⟨nI (nG (σ.1 27)), s1, fk_w s1 27 (newG (s1.1 27) (nG (σ.1 27)) x1 x2 20 0), ?_, ?_, ?_⟩
    · simp only [F_X4_potter, c1, c2, h1, h2, bS, fb0, if_true, if_false, Bool.true_eq_false, Bool.false_eq_true, reduceIte]
      unfold F_X0_isFull
      rw [hc.c6, n1, if_pos (by rw [i_lt, nI_tI (by omega), show (8 : Int32).toInt = 8 by decide]; omega), bS, if_pos (show (false, σ).1 = false from rfl), g1, bS]
    · simp only [F_X5_potter, m1, m2, h1, h2, bS, fb0, if_true, if_false, Bool.true_eq_false, Bool.false_eq_true, reduceIte]
      rw [rdG 0 (by omega), e27, n1, if_neg (nI_nlit rfl 8 (by omega) (by omega) hf), M_comes (by omega : nG (σ.1 27) < 8) (by rw [e27, n1]), bS, e27]
    · refine hI.mk' ((Eqo.p1 g3).tr (Eqo.w _ (by omega))) ?_ ?_
      · rw [w_self, e27]; exact wf_newG hw (by omega) n1 (by omega) (by omega) (by decide) (by decide)
      · rw [w_self, e27]; exact g2.fr (fun a h1 h2 => w_ne _ _ (by omega))
def moN (w : Nat) : Nat := if w = 0 then 6 else if w < 4 then 99 else 9999
theorem t3_mo {w : Nat} (h : w < 6) {α : Type} {f : Int32 → Option α} : fk_A fk_t3 6 (nI w) f = f (nI (moN w)) := by
  rw [fA rfl h (by omega)]
  rcases (show w = 0 ∨ w = 1 ∨ w = 2 ∨ w = 3 ∨ w = 4 ∨ w = 5 by omega) with rfl | rfl | rfl | rfl | rfl | rfl <;> rfl
theorem M_mostOf {w : Nat} (h : w < 6) (σ : fk_T) : F_X5_mostOf (nI w) σ = some (nI (moN w), σ) := by
  unfold F_X5_mostOf
  rcases (show w = 0 ∨ w = 1 ∨ w = 2 ∨ w = 3 ∨ w = 4 ∨ w = 5 by omega) with rfl | rfl | rfl | rfl | rfl | rfl <;> rfl
theorem mo_hb {w p : Nat} (h : w < 6) (hp : p < 8) : hb (13 + 8 * w + p) = moN w := by
  rcases (show w = 0 ∨ (0 < w ∧ w < 4) ∨ 4 ≤ w by omega) with rfl | h1 | h1
  · rw [show 13 + 8 * 0 + p = 13 + p by omega, hb_kind hp]; rfl
  · rw [hb_99 (by omega) (by omega)]; unfold moN; rw [if_neg (by omega), if_pos (by omega)]; rfl
  · rw [hb_9999 (by omega) (by omega)]; unfold moN; rw [if_neg (by omega), if_neg (by omega)]; rfl
theorem mo_lt (w : Nat) : moN w < 10000 := by unfold moN; split <;> (try split) <;> omega
theorem Q_change {σ : fk_T} (hI : Inv σ) (x1 x2 x3 : Int32) : QQ (F_X4_change x1 x2 x3) (F_X5_change x1 x2 x3) σ := by
  obtain ⟨hw, hc⟩ := hI.p
  have c1 : F_X0_has 1 x1 σ = some (hasG (σ.1 27) x1, σ) := C_has hc x1
  have c2 : ∀ τ, F_X4_within x2 0 5 τ = some (inR x2 0 5, τ) := cR x2 0 5 (by omega) (by omega)
  cases h1 : hasG (σ.1 27) x1
  · refine QQ.find hI (k := 0) (by omega) ?_ ?_
    · first | (simp only [F_X4_change, c1, h1, bS, fb0, if_true, if_false, Bool.true_eq_false, Bool.false_eq_true, reduceIte]; done) | (simp only [F_X4_change, c1, h1, bS, fb0, if_true, if_false, Bool.true_eq_false, Bool.false_eq_true, reduceIte]; rfl)
    · have m1 : F_X5_isPotter x1 (f25 σ 0) = some (hasG (σ.1 27) x1, (f25 σ 0)) := M_isPotter (σ := (f25 σ 0)) hw x1
      first | (simp only [F_X5_change, m1, h1, bS, fb0, if_true, if_false, Bool.true_eq_false, Bool.false_eq_true, reduceIte]; done) | (simp only [F_X5_change, m1, h1, bS, fb0, if_true, if_false, Bool.true_eq_false, Bool.false_eq_true, reduceIte]; rfl)
  cases h2 : inR x2 0 5
  · refine QQ.find hI (k := 0) (by omega) ?_ ?_
    · first | (simp only [F_X4_change, c1, c2, h1, h2, bS, fb0, if_true, if_false, Bool.true_eq_false, Bool.false_eq_true, reduceIte]; done) | (simp only [F_X4_change, c1, c2, h1, h2, bS, fb0, if_true, if_false, Bool.true_eq_false, Bool.false_eq_true, reduceIte]; rfl)
    · have m1 : F_X5_isPotter x1 (f25 σ 0) = some (hasG (σ.1 27) x1, (f25 σ 0)) := M_isPotter (σ := (f25 σ 0)) hw x1
      have m2 : ∀ τ, F_X5_in x2.toInt64 0 5 τ = some (inR x2 0 5, τ) := mR x2 0 5 (by omega) (by omega)
      first | (simp only [F_X5_change, m1, m2, h1, h2, bS, fb0, if_true, if_false, Bool.true_eq_false, Bool.false_eq_true, reduceIte]; done) | (simp only [F_X5_change, m1, m2, h1, h2, bS, fb0, if_true, if_false, Bool.true_eq_false, Bool.false_eq_true, reduceIte]; rfl)
  obtain ⟨p, e1, p1, p2⟩ := hasG_of hw h1
  obtain ⟨w, e2, w1, w2, hw9⟩ := inR_of h2
  have ml := mo_lt w
  have m1 : ∀ (τ : fk_T), τ.1 27 = σ.1 27 → F_X5_isPotter x1 τ = some (hasG (σ.1 27) x1, τ) := fun τ z => by rw [M_isPotter (by rw [z]; exact hw), z]
  have m2 : ∀ τ, F_X5_in x2.toInt64 0 5 τ = some (inR x2 0 5, τ) := mR x2 0 5 (by omega) (by omega)
  have c3 : ∀ τ, F_X4_within x3 0 (nI (moN w)) τ = some (inR x3 0 (moN w), τ) := cR x3 0 (moN w) (by omega) (by omega)
  have m3 : ∀ τ, F_X5_in x3.toInt64 0 ((nI (moN w)).toInt64) τ = some (inR x3 0 (moN w), τ) := mR' x3 (moN w) (by omega)
  have ec : F_X4_change x1 x2 x3 σ = if inR x3 0 (moN w) = false then (F_X4_found 0 σ).bind (fun q => some (q.1, q.2)) else some (σ.1 27 (13 + 8 * w + p), fk_w σ 3 (upd (σ.1 3) (8 * w + p) x3)) := by
    simp only [F_X4_change, c1, c2, h1, h2, bS, fb0, if_true, if_false, Bool.true_eq_false, Bool.false_eq_true, reduceIte]
    rw [e2, t3_mo (by omega), c3, bS]
    dsimp only
    rw [fB, rT hc (13 + 8 * w + p) (j := 8 * w + p) (by rw [nm, e1, nI_add]) (by omega) (by omega), fS (j := 8 * w + p) (by rw [nm, e1, nI_add]) (by omega) (by omega)]
  have em : ∀ (τ : fk_T), τ.1 27 = σ.1 27 → F_X5_change x1 x2 x3 τ = if inR x3 0 (moN w) = false then (F_X5_finds 0 τ).bind (fun q => some (q.1, q.2)) else some (σ.1 27 (13 + 8 * w + p), fk_w τ 27 (upd (σ.1 27) (13 + 8 * w + p) x3)) := fun τ z => by
    simp only [F_X5_change, m1 τ z, m2, h1, h2, bS, fb0, if_true, if_false, Bool.true_eq_false, Bool.false_eq_true, reduceIte]
    rw [e2, M_mostOf (by omega), bS]
    dsimp only
    rw [m3, bS]
    dsimp only
    rw [M_becomes (k := 13 + 8 * w + p) (by rw [nm, nl, e1, nI_add]) (by omega), bS, z]
  cases h3 : inR x3 0 (moN w)
  · refine QQ.find hI (k := 0) (by omega) ?_ ?_
    · rw [ec, if_pos h3]
    · rw [em _ (f25_ne _ _ (by omega)), if_pos h3]
  · have q3 := of_decide_eq_true h3
    refine ⟨_, _, _, ec.trans (if_neg (by rw [h3]; decide)), (em _ (w_ne _ _ (by omega))).trans (if_neg (by rw [h3]; decide)), ?_⟩
    refine hI.mk' ((Eqo.w _ (by omega)).tr (Eqo.w _ (by omega))) ?_ ?_
    · rw [w_self]; exact hw.set (by omega) (by omega) (fun _ _ => by rw [mo_hb (by omega) p1]; exact q3)
    · rw [w_self]; exact (hc.trm (i := 8 * w + p) (m := 13 + 8 * w + p) (by omega) (by omega) x3).fr (fun a h1 h2 => w_ne _ _ (by omega))
