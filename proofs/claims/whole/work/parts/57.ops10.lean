/-! ===== sheets: write, judge, load ===== -/
theorem M_isSheet (x : Int32) (τ : fk_T) : F_X5_isSheet x τ = some (inR x 0 3, τ) := by
  unfold F_X5_isSheet
  rw [mR x 0 3 (by omega) (by omega), bS]
theorem M_why0 {x : Int32} (h : inR x 0 3 = false) (τ : fk_T) : F_X5_whyNone x τ = some (0, τ) := by
  unfold F_X5_whyNone
  rw [M_isSheet, bS, h, if_pos (show fk_b (false, τ).1 = 0 from rfl)]
theorem M_why5 {x : Int32} {s : Nat} (h : inR x 0 3 = true) (e : x = nI s) (hs : s < 4) {τ : fk_T} (h0 : τ.1 33 s = 0) : F_X5_whyNone x τ = some (5, τ) := by
  unfold F_X5_whyNone
  rw [M_isSheet, bS, h, if_neg (show ¬ fk_b (true, τ).1 = 0 from fbT), fA e hs (by omega), if_pos h0]
theorem M_whyN {x : Int32} {s : Nat} (h : inR x 0 3 = true) (e : x = nI s) (hs : s < 4) {τ : fk_T} (h0 : ¬ τ.1 33 s = 0) : F_X5_whyNone x τ = some (-1, τ) := by
  unfold F_X5_whyNone
  rw [M_isSheet, bS, h, if_neg (show ¬ fk_b (true, τ).1 = 0 from fbT), fA e hs (by omega), if_neg h0]
theorem C_misT {x : Int32} {s : Nat} (e : x = nI s) (hs : s < 4) {τ : fk_T} (h0 : τ.1 22 s = 0) : F_X2_isMissing x τ = some (true, τ) := by
  unfold F_X2_isMissing
  rw [fA e hs (by omega), if_pos h0]
theorem C_misF {x : Int32} {s : Nat} (e : x = nI s) (hs : s < 4) {τ : fk_T} (h0 : ¬ τ.1 22 s = 0) : F_X2_isMissing x τ = some (false, τ) := by
  unfold F_X2_isMissing
  rw [fA e hs (by omega), if_neg h0]
theorem Inv.sh {σ σ' : fk_T} (h : Inv σ) (e : ∀ a, (a < 22 ∨ (25 ≤ a ∧ a ≤ 32)) → σ'.1 a = σ.1 a) (hs : IvS σ') : Inv σ' := by
  obtain ⟨hp, hk, hf, ht, _⟩ := h
  exact ⟨⟨by rw [e 27 (by omega)]; exact hp.1, by rw [e 27 (by omega)]; exact hp.2.fr (fun a h1 h2 => e a (by omega))⟩, hk.fr (e 0 (by omega)) (by rw [e 26 (by omega)]) (e 30 (by omega)) (fun a h1 h2 => e a (by omega)), hf.fr (e 25 (by omega)) (e 31 (by omega)), ht.fr (e 16 (by omega)) (by rw [e 26 (by omega)]) (e 17 (by omega)) (e 32 (by omega)), hs⟩
theorem C_get {x y : Int32} {s i : Nat} (e : x = nI s) (e2 : y = nI i) (hs : s < 4) (hi : i < 40) (τ : fk_T) : F_X2_get x y τ = some (τ.1 24 (40 * s + i), τ) := by
  unfold F_X2_get
  rw [fA (j := 40 * s + i) (by rw [e, e2, nm, nI_add]) (by omega) (by omega)]
theorem szI {z : Nat} (hz : z ≤ 40) : (nI z - 1).toInt = (z : Int) - 1 := by rw [ti_sub (by rw [li1, nI_tI (by omega)]; omega) (by rw [li1, nI_tI (by omega)]; omega), li1, nI_tI (by omega)]
def lowV (w x : Int32) : Int32 := if w = 8 then x.toInt8.toInt32 else if w = 16 then x.toInt16.toInt32 else x
theorem C_low (w x : Int32) (σ : fk_T) : F_X2_lowest w x σ = some (lowV w x, σ) := by
  unfold F_X2_lowest lowV
  split
  · rfl
  · split <;> rfl
theorem Q_write {σ : fk_T} (hI : Inv σ) (x1 x2 x3 : Int32) : QQ (F_X4_write x1 x2 x3) (F_X5_write x1 x2 x3) σ := by
  obtain ⟨hw, hc⟩ := hI.p
  have c1 : ∀ τ, F_X4_within x1 0 3 τ = some (inR x1 0 3, τ) := cR x1 0 3 (by omega) (by omega)
  cases h1 : inR x1 0 3
  · refine QQ.find hI (k := 0) (by omega) ?_ ?_
    · first | (simp only [F_X4_write, c1, h1, bS, fb0, if_true, if_false, Bool.true_eq_false, Bool.false_eq_true, reduceIte]; done) | (simp only [F_X4_write, c1, h1, bS, fb0, if_true, if_false, Bool.true_eq_false, Bool.false_eq_true, reduceIte]; rfl)
    · have m1 : F_X5_whyNone x1 (f25 σ 0) = some (0, (f25 σ 0)) := M_why0 h1 _
      first | (simp only [F_X5_write, m1, h1, bS, fb0, if_true, if_false, Bool.true_eq_false, Bool.false_eq_true, reduceIte, show (0 : Int32) ≤ 0 by decide, show ¬ ((0 : Int32) < 0) by decide]; done) | (simp only [F_X5_write, m1, h1, bS, fb0, if_true, if_false, Bool.true_eq_false, Bool.false_eq_true, reduceIte, show (0 : Int32) ≤ 0 by decide, show ¬ ((0 : Int32) < 0) by decide]; rfl)
  obtain ⟨s, e1, s1, s2, hs⟩ := inR_of h1
  have hs4 : s < 4 := by omega
  obtain ⟨v1, v2, v3, z, hz, v4, v5⟩ := hI.2.2.2.2 s hs4
  by_cases hm : σ.1 22 s = 0
  · refine QQ.find hI (k := 5) (by omega) ?_ ?_
    · simp only [F_X4_write, c1, h1, C_misT e1 hs4 hm, bS, fb0, if_true, if_false, Bool.true_eq_false, Bool.false_eq_true, reduceIte]
    · have m1 := M_why5 h1 e1 hs4 (τ := f25 σ 5) (by rw [f25_ne _ _ (by omega), ← v1]; exact hm)
      simp only [F_X5_write, m1, bS, show (0 : Int32) ≤ 5 by decide, if_true, show ¬ ((5 : Int32) < 0) by decide, if_false]
  
  have wN : ∀ (τ : fk_T), τ.1 33 = σ.1 33 → F_X5_whyNone x1 τ = some (-1, τ) := fun τ z => M_whyN h1 e1 hs4 (by rw [z, ← v1]; exact hm)
  have ec : F_X4_write x1 x2 x3 σ = if decide (0 ≤ x2.toInt ∧ x2.toInt ≤ (z : Int) - 1) = false then (F_X4_found 0 σ).bind (fun q => some (q.1, q.2)) else (F_X2_put x1 x2 x3 σ).bind (fun q => some (1, q)) := by
    simp only [F_X4_write, c1, h1, C_misF e1 hs4 hm, bS, fb0, if_true, if_false, Bool.true_eq_false, Bool.false_eq_true, reduceIte]
    rw [fA e1 hs4 (by omega), v4, C_within, bS, li0, szI hz]
  have em : ∀ (τ : fk_T), τ.1 33 = σ.1 33 → τ.1 34 = σ.1 34 → F_X5_write x1 x2 x3 τ = if decide (0 ≤ x2.toInt ∧ x2.toInt ≤ (z : Int) - 1) = false then (F_X5_finds 0 τ).bind (fun q => some (q.1, q.2)) else fk_S τ 35 160 ((40 * x1) + x2) (lowV (σ.1 22 s) x3) (fun s => some (1, s)) := fun τ y1 y2 => by
    simp only [F_X5_write, wN τ y1, bS, show ¬ ((0 : Int32) ≤ -1) by decide, if_false]
    rw [fA e1 hs4 (by omega), y2, ← v3, v4, M_in, bS, lL0, Int32.toInt_toInt64, Int32.toInt_toInt64, szI hz]
    cases decide (0 ≤ x2.toInt ∧ x2.toInt ≤ (z : Int) - 1)
    · rw [if_pos (show fk_b (false, τ).1 = 0 from rfl), if_neg (by decide), if_pos rfl]
    · rw [if_neg (show ¬ fk_b (true, τ).1 = 0 from fbT), if_pos (by decide), if_neg (by decide), fA e1 hs4 (by omega), y1, ← v1]
      unfold lowV
      by_cases q1 : σ.1 22 s = 8
      · rw [if_pos q1, if_pos q1]
      · rw [if_neg q1, if_neg q1, fA e1 hs4 (by omega), ← v1]
        by_cases q2 : σ.1 22 s = 16
        · rw [if_pos q2, if_pos q2]
        · rw [if_neg q2, if_neg q2]
  cases hd : decide (0 ≤ x2.toInt ∧ x2.toInt ≤ (z : Int) - 1)
  · refine QQ.find hI (k := 0) (by omega) ?_ ?_
    · rw [ec, if_pos hd]
    · rw [em _ (f25_ne _ _ (by omega)) (f25_ne _ _ (by omega)), if_pos hd]
  · have hd2 := of_decide_eq_true hd
    obtain ⟨i, ei, hi⟩ := toN (x := x2) hd2.1
    have ix : (40 * x1) + x2 = nI (40 * s + i) := by rw [e1, ei, nm, nI_add]
    refine ⟨1, fk_w σ 24 (upd (σ.1 24) (40 * s + i) (lowV (σ.1 22 s) x3)), fk_w (fk_w σ 24 (upd (σ.1 24) (40 * s + i) (lowV (σ.1 22 s) x3))) 35 (upd (σ.1 35) (40 * s + i) (lowV (σ.1 22 s) x3)), ?_, ?_, ?_⟩
    · rw [ec, if_neg (by rw [hd]; decide)]
      unfold F_X2_put
      rw [fA e1 hs4 (by omega), C_low, bS]
      dsimp only
      rw [fS ix (by omega) (by omega), bS]
    · rw [em _ (w_ne _ _ (by omega)) (w_ne _ _ (by omega)), if_neg (by rw [hd]; decide), fS ix (by omega) (by omega), w_ne _ _ (by omega)]
    · refine hI.sh (fun a ha => by rw [w_ne _ _ (by omega), w_ne _ _ (by omega)]) (fun s' hs' => ?_)
      obtain ⟨u1, u2, u3, z', hz', u4, u5⟩ := hI.2.2.2.2 s' hs'
      have e22 : (fk_w (fk_w σ 24 (upd (σ.1 24) (40 * s + i) (lowV (σ.1 22 s) x3))) 35 (upd (σ.1 35) (40 * s + i) (lowV (σ.1 22 s) x3))).1 22 = σ.1 22 := by rw [w_ne _ _ (by omega), w_ne _ _ (by omega)]
      have e23 : (fk_w (fk_w σ 24 (upd (σ.1 24) (40 * s + i) (lowV (σ.1 22 s) x3))) 35 (upd (σ.1 35) (40 * s + i) (lowV (σ.1 22 s) x3))).1 23 = σ.1 23 := by rw [w_ne _ _ (by omega), w_ne _ _ (by omega)]
      have e33 : (fk_w (fk_w σ 24 (upd (σ.1 24) (40 * s + i) (lowV (σ.1 22 s) x3))) 35 (upd (σ.1 35) (40 * s + i) (lowV (σ.1 22 s) x3))).1 33 = σ.1 33 := by rw [w_ne _ _ (by omega), w_ne _ _ (by omega)]
      have e34 : (fk_w (fk_w σ 24 (upd (σ.1 24) (40 * s + i) (lowV (σ.1 22 s) x3))) 35 (upd (σ.1 35) (40 * s + i) (lowV (σ.1 22 s) x3))).1 34 = σ.1 34 := by rw [w_ne _ _ (by omega), w_ne _ _ (by omega)]
      rw [e22, e23, e33, e34]
      refine ⟨u1, u2, u3, z', hz', u4, fun j hj => ?_⟩
      rw [w_self, w_ne _ _ (by omega), w_self]
      by_cases q : 40 * s' + j = 40 * s + i
      · rw [q, u_self, u_self]
      · rw [u_ne _ _ q, u_ne _ _ q]; exact u5 j hj
def juK (f : Nat → Int32) (G : Nat → Int32) : Nat → Nat → Int32
  | 0, _ => 0
  | m + 1, i => if hasG G (nI i) = true ∧ G (45 + i) = f i then juK f G m (i + 1) else nI (1 + i)
theorem juK_s (f G : Nat → Int32) (m i : Nat) : juK f G (m + 1) i = if hasG G (nI i) = true ∧ G (45 + i) = f i then juK f G m (i + 1) else nI (1 + i) := rfl
theorem C_juL {s z : Nat} (hs : s < 4) (hz : z ≤ 40) {σ : fk_T} {G : Nat → Int32} (hw : WF G) (h : CP 1 σ G) (h4 : σ.1 23 s = nI z) : ∀ (m i fu : Nat), i + m = z → m < fu → L_X4_judge_34 fu (nI s) (nI i) σ (fun _ _ s8 => some (0, s8)) = some (juK (fun j => σ.1 24 (40 * s + j)) G m i, σ)
  | m, i, 0, _, hf => by omega
  | 0, i, fu + 1, hi, _ => by
    have : i = z := by omega
    subst this
    rw [L_X4_judge_34, fA rfl hs (by omega), h4, if_pos (by rw [i_le]; omega)]
    rfl
  | m + 1, i, fu + 1, hi, hf => by
    rw [L_X4_judge_34, fA rfl hs (by omega), h4, if_neg (by rw [i_le, nI_tI (by omega), nI_tI (by omega)]; omega), C_has h, bS, juK_s]
    dsimp only
    cases hh : hasG G (nI i)
    · rw [if_pos (show fk_b false = 0 from rfl), if_neg (fun y => by cases y.1), nl]
    · obtain ⟨p, ep, p1, p2⟩ := hasG_of hw hh
      have : i = p := (nI_inj (by omega) (by omega)).mp ep
      subst this
      rw [if_neg fbT, rT (b := 1) h (45 + i) (j := 32 + i) (nl 32 i) (by omega) (by omega), C_get rfl rfl hs (by omega), bS, fB, nI_1, nl]
      dsimp only
      by_cases q : G (45 + i) = σ.1 24 (40 * s + i)
      · rw [if_pos q, if_pos ⟨rfl, q⟩, C_juL hs hz hw h h4 m (i + 1) fu (by omega) (by omega)]
      · rw [if_neg q, if_neg (fun y => q y.2)]
theorem M_juL {s z : Nat} (hs : s < 4) (hz : z ≤ 40) {σ : fk_T} (hw : WF (σ.1 27)) (h4 : σ.1 34 s = nI z) {f : Nat → Int32} (hf9 : ∀ j, j < z → f j = σ.1 35 (40 * s + j)) : ∀ (m i fu : Nat), i + m = z → m < fu → L_X5_judge_18 fu (nI s) (nI i) σ (fun _ _ s8 => some (0, s8)) = some (juK f (σ.1 27) m i, σ)
  | m, i, 0, _, hf => by omega
  | 0, i, fu + 1, hi, _ => by
    have : i = z := by omega
    subst this
    rw [L_X5_judge_18, fA rfl hs (by omega), h4, if_pos (by rw [i_le]; omega)]
    rfl
  | m + 1, i, fu + 1, hi, hf => by
    rw [L_X5_judge_18, fA rfl hs (by omega), h4, if_neg (by rw [i_le, nI_tI (by omega), nI_tI (by omega)]; omega), M_isPotter hw, bS, juK_s]
    dsimp only
    cases hh : hasG (σ.1 27) (nI i)
    · rw [if_pos (show fk_b false = 0 from rfl), if_neg (fun y => by cases y.1), nl]
    · obtain ⟨p, ep, p1, p2⟩ := hasG_of hw hh
      have : i = p := (nI_inj (by omega) (by omega)).mp ep
      subst this
      rw [if_neg fbT, fA (j := 40 * s + i) (by rw [nm, nI_add]) (by omega) (by omega), M_its (a := i) (b := 4) rfl (nlit 4) p1 (by omega), bS, fB, nI_1, nl, show 13 + 8 * 4 + i = 45 + i by omega, ← hf9 i (by omega)]
      dsimp only
      by_cases q : σ.1 27 (45 + i) = f i
      · rw [if_pos q.symm, if_pos ⟨rfl, q⟩, M_juL hs hz hw h4 hf9 m (i + 1) fu (by omega) (by omega)]
      · rw [if_neg (fun y => q y.symm), if_neg (fun y => q y.2)]
theorem Q_judge {σ : fk_T} (hI : Inv σ) (x1 : Int32) : QQ (F_X4_judge x1) (F_X5_judge x1) σ := by
  obtain ⟨hw, hc⟩ := hI.p
  have c1 : ∀ τ, F_X4_within x1 0 3 τ = some (inR x1 0 3, τ) := cR x1 0 3 (by omega) (by omega)
  cases h1 : inR x1 0 3
  · refine QQ.find hI (k := 0) (by omega) ?_ ?_
    · first | (simp only [F_X4_judge, c1, h1, bS, fb0, if_true, if_false, Bool.true_eq_false, Bool.false_eq_true, reduceIte]; done) | (simp only [F_X4_judge, c1, h1, bS, fb0, if_true, if_false, Bool.true_eq_false, Bool.false_eq_true, reduceIte]; rfl)
    · have m1 : F_X5_whyNone x1 (f25 σ 0) = some (0, (f25 σ 0)) := M_why0 h1 _
      first | (simp only [F_X5_judge, m1, h1, bS, fb0, if_true, if_false, Bool.true_eq_false, Bool.false_eq_true, reduceIte, show ¬ ((0 : Int32) < 0) by decide]; done) | (simp only [F_X5_judge, m1, h1, bS, fb0, if_true, if_false, Bool.true_eq_false, Bool.false_eq_true, reduceIte, show ¬ ((0 : Int32) < 0) by decide]; rfl)
  obtain ⟨s, e1, s1, s2, hs⟩ := inR_of h1
  have hs4 : s < 4 := by omega
  obtain ⟨v1, v2, v3, z, hz, v4, v5⟩ := hI.2.2.2.2 s hs4
  by_cases hm : σ.1 22 s = 0
  · refine QQ.find hI (k := 5) (by omega) ?_ ?_
    · simp only [F_X4_judge, c1, h1, C_misT e1 hs4 hm, bS, fb0, if_true, if_false, Bool.true_eq_false, Bool.false_eq_true, reduceIte]
    · have m1 := M_why5 h1 e1 hs4 (τ := f25 σ 5) (by rw [f25_ne _ _ (by omega), ← v1]; exact hm)
      simp only [F_X5_judge, m1, bS, show ¬ ((5 : Int32) < 0) by decide, if_false]
  
  refine QQ.same hI (r := juK (fun j => σ.1 24 (40 * s + j)) (σ.1 27) z 0) ?_ ?_
  · simp only [F_X4_judge, c1, h1, C_misF e1 hs4 hm, bS, fb0, if_true, if_false, Bool.true_eq_false, Bool.false_eq_true, reduceIte]
    rw [e1]
    exact C_juL hs4 hz hw hc v4 z 0 fk_N (by omega) (by unfold fk_N; omega)
  · have m1 := M_whyN h1 e1 hs4 (τ := σ) (by rw [← v1]; exact hm)
    simp only [F_X5_judge, m1, bS, show ((-1 : Int32) < 0) by decide, if_true]
    rw [e1]
    exact M_juL hs4 hz hw (v3.symm.trans v4) (f := fun j => σ.1 24 (40 * s + j)) (fun j hj => v5 j hj) z 0 fk_N (by omega) (by unfold fk_N; omega)
