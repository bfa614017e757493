/-- the class -/
theorem C_flop {c : Nat} {σ : fk_T} {G : Nat → Int32} (h : CP c σ G) (hw : WF G) {x : Int32} {p : Nat} (hx : x = nI p) (hp : p < 8) : ∃ σ', F_X0_flop c x σ = some σ' ∧ CP c σ' (flop1 G p) ∧ FrP c σ σ' := by
  subst hx
  have b1 := hw.pots (k := 53 + p) (by omega) (by omega)
  have e1 : fk_min (G (53 + p) + 1) 9999 = gh (G (53 + p) + 1) 9999 := min_gh (by rw [ti_add (by rw [li1]; omega) (by rw [li1]; omega), li1]; omega)
  have h1 : CP c _ (ga G (53 + p) 1 9999) := h.trm (i := 40 + p) (m := 53 + p) (by omega) (by omega) (gh (G (53 + p) + 1) 9999)
  have hb1 : 0 ≤ (boilG G p).toInt ∧ (boilG G p).toInt ≤ 10 := by
    unfold boilG
    repeat' split
    all_goals decide
  have b2 := hw.lev (k := 21 + p) (by omega) (by omega)
  have e2 : fk_min (G (21 + p) + boilG G p) 99 = gh (G (21 + p) + boilG G p) 99 := min_gh (by rw [ti_add (by omega) (by omega)]; omega)
  unfold F_X0_flop
  rw [rT h (13 + p) (nl 0 p) (by omega) (by omega), C_boil hw hp, rT h (53 + p) (nl 40 p) (by omega) (by omega), e1, fS (nl 40 p) (by omega) (by omega), rT h1 (21 + p) (nl 8 p) (by omega) (by omega), ga_ne (by omega), e2, fS (nl 8 p) (by omega) (by omega)]
  refine ⟨_, rfl, ?_, (FrP.w _ (by omega)).tr (FrP.w _ (by omega))⟩
  have h2 := h1.trm (i := 8 + p) (m := 21 + p) (by omega) (by omega) (gh (G (21 + p) + boilG G p) 99)
  unfold flop1
  have e3 : ga (ga G (53 + p) 1 9999) (21 + p) (boilG G p) 99 = upd (ga G (53 + p) 1 9999) (21 + p) (gh (G (21 + p) + boilG G p) 99) := by
    unfold ga
    rw [u_ne (j := 21 + p) _ _ (by omega)]
  rw [e3]
  exact h2
theorem C_stand {c : Nat} {σ : fk_T} {G : Nat → Int32} (h : CP c σ G) (hw : WF G) {x : Int32} {p : Nat} (hx : x = nI p) (hp : p < 8) : ∃ σ', F_X0_stand c x σ = some σ' ∧ CP c σ' (stand1 G p) ∧ FrP c σ σ' := by
  subst hx
  have b1 := hw.pots (k := 45 + p) (by omega) (by omega)
  have e1 : fk_min (G (45 + p) + 1) 9999 = gh (G (45 + p) + 1) 9999 := min_gh (by rw [ti_add (by rw [li1]; omega) (by rw [li1]; omega), li1]; omega)
  have h1 : CP c _ (ga G (45 + p) 1 9999) := h.trm (i := 32 + p) (m := 45 + p) (by omega) (by omega) (gh (G (45 + p) + 1) 9999)
  have hb1 : 0 ≤ (coolG G p).toInt ∧ (coolG G p).toInt ≤ 10 := by
    unfold coolG
    repeat' split
    all_goals decide
  have b2 := hw.lev (k := 21 + p) (by omega) (by omega)
  have e2 : fk_max (G (21 + p) - coolG G p) 0 = gh (G (21 + p) + -coolG G p) 99 := by
    rw [max_gh (most := 99) (by rw [l99, ti_sub (by omega) (by omega)]; omega), Int32.sub_eq_add_neg]
  unfold F_X0_stand
  rw [rT h (13 + p) (nl 0 p) (by omega) (by omega), C_cool hw hp, rT h (45 + p) (nl 32 p) (by omega) (by omega), e1, fS (nl 32 p) (by omega) (by omega), rT h1 (21 + p) (nl 8 p) (by omega) (by omega), ga_ne (by omega), e2, fS (nl 8 p) (by omega) (by omega)]
  refine ⟨_, rfl, ?_, (FrP.w _ (by omega)).tr (FrP.w _ (by omega))⟩
  have h2 := h1.trm (i := 8 + p) (m := 21 + p) (by omega) (by omega) (gh (G (21 + p) + -coolG G p) 99)
  unfold stand1
  have e3 : ga (ga G (45 + p) 1 9999) (21 + p) (-coolG G p) 99 = upd (ga G (45 + p) 1 9999) (21 + p) (gh (G (21 + p) + -coolG G p) 99) := by
    unfold ga
    rw [u_ne (j := 21 + p) _ _ (by omega)]
  rw [e3]
  exact h2
theorem ga_0 {G : Nat → Int32} {k : Nat} {most : Int32} (h : 0 ≤ (G k).toInt ∧ (G k).toInt ≤ most.toInt) : ga G k 0 most = G := by
  unfold ga
  rw [Int32.add_zero, gh_in h.1 h.2]
  funext j
  by_cases e : j = k
  · subst e; rw [u_self]
  · rw [u_ne _ _ e]
theorem C_sell {c : Nat} {σ : fk_T} {G : Nat → Int32} (h : CP c σ G) (hw : WF G) {r l : Int32} (hr : 0 ≤ r.toInt ∧ r.toInt ≤ 99) (hl : -40 ≤ l.toInt ∧ l.toInt ≤ 40) : ∃ σ', F_X0_sell c r l σ = some σ' ∧ CP c σ' (sellG G r l) ∧ FrP c σ σ' := by
  have hgo := hw.gold
  have hab : 0 ≤ (fk_abs l).toInt ∧ (fk_abs l).toInt ≤ 40 := by
    unfold fk_abs
    by_cases e : 0 ≤ l
    · rw [if_pos e]; rw [i_le, li0] at e; omega
    · rw [if_neg e, ti_sub (by rw [li0]; omega) (by rw [li0]; omega), li0]; rw [i_le, li0] at e; omega
  have e0 : (r + fk_abs l).toInt = r.toInt + (fk_abs l).toInt := ti_add (by omega) (by omega)
  have e1 : fk_min (G 4 + r + fk_abs l) 99999 = gh (G 4 + (r + fk_abs l)) 99999 := by
    rw [Int32.add_assoc]
    exact min_gh (by rw [ti_add (by omega) (by omega)]; omega)
  have h1 : CP c (fk_w σ c (upd (σ.1 c) 1 (gh (G 4 + (r + fk_abs l)) 99999))) (ga G 4 (r + fk_abs l) 99999) := h.obj (i := 1) (by omega) _
  have w1 : WF (ga G 4 (r + fk_abs l) 99999) := hw.ga (by omega) (by omega) (by rw [l99999]; rfl)
  unfold F_X0_sell
  simp only [fk_B, h.c1, e1, h1.c2]
  unfold sellG
  by_cases e : l = 0
  · simp only [e, if_true]
    rw [e] at h1 w1 e1
    have br := w1.round
    have e2 : fk_min (ga G 4 (r + fk_abs 0) 99999 5 + 1) 9999 = gh (ga G 4 (r + fk_abs 0) 99999 5 + 1) 9999 := min_gh (by rw [ti_add (by rw [li1]; omega) (by rw [li1]; omega), li1]; omega)
    have h2 : CP c _ (ga (ga G 4 (r + fk_abs 0) 99999) 5 1 9999) := h1.obj (i := 2) (by omega) (gh (ga G 4 (r + fk_abs 0) 99999 5 + 1) 9999)
    have w2 : WF (ga (ga G 4 (r + fk_abs 0) 99999) 5 1 9999) := w1.ga (by omega) (by omega) (by rw [l9999]; rfl)
    have bq := w2.rings
    rw [e2]
    by_cases e4 : r < 40
    · rw [if_pos e4, if_pos e4, ga_0 (by rw [l9999]; exact bq)]
      exact ⟨_, rfl, h2, (FrP.w _ (by omega)).tr (FrP.w _ (by omega))⟩
    · rw [if_neg e4, if_neg e4]
      have e3 : fk_min (ga (ga G 4 (r + fk_abs 0) 99999) 5 1 9999 6 + 1) 9999 = gh (ga (ga G 4 (r + fk_abs 0) 99999) 5 1 9999 6 + 1) 9999 := min_gh (by rw [ti_add (by rw [li1]; omega) (by rw [li1]; omega), li1]; omega)
      rw [h2.c3, e3]
      exact ⟨_, rfl, h2.obj (i := 3) (by omega) _, ((FrP.w _ (by omega)).tr (FrP.w _ (by omega))).tr (FrP.w _ (by omega))⟩
  · simp only [e, if_false]
    rw [ga_0 (k := 5) (by rw [l9999]; exact w1.round), ga_0 (k := 6) (by rw [l9999]; exact w1.rings)]
    exact ⟨_, rfl, h1, FrP.w _ (by omega)⟩
theorem rise_b {G : Nat → Int32} (hw : WF G) {a b : Nat} (ha : a < 8) (hb8 : b < 8) {c : Int32} (hc : 0 ≤ c.toInt ∧ c.toInt ≤ 20) : 0 ≤ (riseG G c a b).toInt ∧ (riseG G c a b).toInt ≤ 99 := by
  have hg := gbt_lt ha hb8
  have h1 := hw.lev (k := 61 + gbt a b) (by omega) (by omega)
  unfold riseG
  have hm1 : 0 ≤ c.toInt * (G (61 + gbt a b)).toInt := Int.mul_nonneg hc.1 h1.1
  have hm2 : c.toInt * (G (61 + gbt a b)).toInt ≤ 20 * 99 := Int.mul_le_mul hc.2 h1.2 h1.1 (by omega)
  have e : (c * G (61 + gbt a b)).toInt = c.toInt * (G (61 + gbt a b)).toInt := ti_mul (by omega) (by omega)
  rw [d20 (by omega), e]
  omega
theorem lean_b {G : Nat → Int32} (hw : WF G) {a b : Nat} (ha : a < 8) (hb8 : b < 8) : -40 ≤ (leanG G a b).toInt ∧ (leanG G a b).toInt ≤ 40 := by
  have h1 := push_b hw ha
  have h2 := push_b hw hb8
  unfold leanG
  rw [ti_sub (by omega) (by omega)]
  omega
theorem C_throwPot {c : Nat} {σ : fk_T} {G : Nat → Int32} (h : CP c σ G) (hw : WF G) {x y : Int32} {a b : Nat} (hx : x = nI a) (hy : y = nI b) (ha : a < 8) (hb8 : b < 8) : ∃ σ', F_X0_throwPot c x y σ = some σ' ∧ CP c σ' (potG G a b) ∧ FrP c σ σ' := by
  have hg := gbt_lt ha hb8
  have hrb := rise_b hw ha hb8 hw.clay
  have hlb := lean_b hw ha hb8
  unfold F_X0_throwPot
  rw [C_rises h hx hy ha hb8, bS, C_leans h hx hy ha hb8, bS, C_says h hx ha, bS, C_says h hy hb8, bS]
  simp only [fk_B]
  rw [C_wouldFlop, bS, h.c0]
  simp only [fb0]
  unfold potG
  cases hf : flopG (riseG G (G 3) a b) (leanG G a b)
  · simp only [if_true, Bool.false_eq_true, if_false]
    obtain ⟨s1, e1, c1, f1⟩ := C_stand h hw hx ha
    have w1 := wf_stand1 hw ha
    obtain ⟨s2, e2, c2, f2⟩ := C_stand c1 w1 hy hb8
    have w2 := wf_stand1 w1 hb8
    obtain ⟨s3, e3, c3, f3⟩ := C_sell c2 w2 hrb hlb
    have w3 := wf_sellG w2 (riseG G (G 3) a b) (leanG G a b)
    obtain ⟨s4, e4, c4, f4⟩ := C_setRift c3 (v := gh (sellG (stand1 (stand1 G a) b) (riseG G (G 3) a b) (leanG G a b) (61 + gbt a b) + (saysG G a + saysG G b)) 99) hx hy ha hb8
    rw [e1, bS, e2, bS, e3, bS, C_riftOf c3 hx hy ha hb8, bS, mm_gh (by rw [l99]; omega), e4, bS]
    exact ⟨s4, rfl, c4, ((f1.tr f2).tr f3).tr f4⟩
  · simp only [Bool.true_eq_false, if_false, if_true]
    obtain ⟨s1, e1, c1, f1⟩ := C_flop h hw hx ha
    have w1 := wf_flop1 hw ha
    obtain ⟨s2, e2, c2, f2⟩ := C_flop c1 w1 hy hb8
    obtain ⟨s4, e4, c4, f4⟩ := C_setRift c2 (v := gh (flop1 (flop1 G a) b (61 + gbt a b) + (saysG G a + saysG G b)) 99) hx hy ha hb8
    rw [e1, bS, e2, bS, C_riftOf c2 hx hy ha hb8, bS, mm_gh (by rw [l99]; omega), e4, bS]
    exact ⟨s4, rfl, c4, (f1.tr f2).tr f4⟩
