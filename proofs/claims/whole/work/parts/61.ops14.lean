/-! ===== copy ===== -/
theorem cmp_gt (x y : Int64) : 0 < lg_cmp x y ↔ y.toInt < x.toInt := by
  unfold lg_cmp
  by_cases h : x > y
  · rw [if_pos h]
    have : y.toInt < x.toInt := l_lt.mp h
    exact ⟨fun _ => this, fun _ => by decide⟩
  · rw [if_neg h]
    have h2 : ¬ y.toInt < x.toInt := fun z => h (l_lt.mpr z)
    by_cases e : x = y
    · rw [if_pos e]; exact ⟨fun z => absurd z (by decide), fun z => absurd z h2⟩
    · rw [if_neg e]; exact ⟨fun z => absurd z (by decide), fun z => absurd z h2⟩
theorem cmp_le (x y : Int64) : lg_cmp x y ≤ 0 ↔ x.toInt ≤ y.toInt := by
  have h := cmp_gt x y
  rw [i_lt, li0] at h
  rw [i_le, li0]
  omega
theorem add64 (x y : Int32) : (x.toInt64 + y.toInt64).toInt = x.toInt + y.toInt := by
  have h1 := ti_lo x
  have h2 := ti_hi x
  have h3 := ti_lo y
  have h4 := ti_hi y
  rw [Int64.toInt_add, Int32.toInt_toInt64, Int32.toInt_toInt64]
  apply Int.bmod_eq_of_le <;> omega
def runG (x y : Int32) (z : Nat) : Bool := decide (0 ≤ x.toInt ∧ 0 ≤ y.toInt ∧ x.toInt + y.toInt ≤ z)
theorem C_run {x1 x y : Int32} {s z : Nat} (e : x1 = nI s) (hs : s < 4) (hz : z ≤ 40) {τ : fk_T} (h4 : τ.1 23 s = nI z) : F_X2_hasRun x1 x y τ = some (runG x y z, τ) := by
  unfold F_X2_hasRun runG
  by_cases a1 : x < 0
  · rw [if_pos a1, decide_eq_false (fun q => by rw [i_lt, li0] at a1; omega)]
  rw [if_neg a1]
  by_cases a2 : y < 0
  · rw [if_pos a2, decide_eq_false (fun q => by rw [i_lt, li0] at a2; omega)]
  rw [if_neg a2, fA e hs (by omega), h4, fA e hs (by omega), h4]
  rw [i_lt, li0] at a1 a2
  have h2 := ti_hi x
  have e2 : (nI z - x).toInt = (z : Int) - x.toInt := by rw [ti_sub (by rw [nI_tI (by omega)]; omega) (by rw [nI_tI (by omega)]; omega), nI_tI (by omega)]
  by_cases a3 : nI z < x
  · rw [if_pos a3, decide_eq_false (fun q => by rw [i_lt, nI_tI (by omega)] at a3; omega)]
  rw [if_neg a3]
  by_cases a4 : nI z - x < y
  · rw [if_pos a4, decide_eq_false (fun q => by rw [i_lt, e2] at a4; omega)]
  · rw [if_neg a4, decide_eq_true (by rw [i_lt, e2] at a4; omega)]
theorem M_cp1 {s f n : Nat} (hs : s < 4) (hf9 : f + n ≤ 40) {x3 x4 : Int32} {k : Int32 → Int32 → Int32 → Int32 → Int32 → Int32 → fk_T → Option (Int32 × fk_T)} : ∀ (m i fu : Nat) {τ : fk_T}, i + m = n → m < fu → ∃ τ', L_X5_copy_123 fu (nI s) (nI f) x3 x4 (nI n) (nI i) τ k = k (nI s) (nI f) x3 x4 (nI n) (nI n) τ' ∧ (∀ j, τ'.1 36 j = if i ≤ j ∧ j < n then τ.1 35 (40 * s + f + j) else τ.1 36 j) ∧ (∀ a, a ≠ 36 → τ'.1 a = τ.1 a)
  | m, i, 0, _, _, hf => by omega
  | 0, i, fu + 1, τ, hi, _ => by
    have : i = n := by omega
    subst this
    refine ⟨τ, ?_, fun j => by rw [if_neg (by omega)], fun _ _ => rfl⟩
    rw [L_X5_copy_123, if_pos (by rw [i_le]; omega)]
  | m + 1, i, fu + 1, τ, hi, hf => by
    obtain ⟨τ', a1, a2, a3⟩ := M_cp1 hs hf9 (x3 := x3) (x4 := x4) (k := k) m (i + 1) fu (τ := fk_w τ 36 (upd (τ.1 36) i (τ.1 35 (40 * s + f + i)))) (by omega) (by omega)
    refine ⟨τ', ?_, fun j => ?_, fun a ha => by rw [a3 a ha, w_ne _ _ ha]⟩
    · rw [L_X5_copy_123, if_neg (by rw [i_le, nI_tI (by omega), nI_tI (by omega)]; omega), fA (j := 40 * s + f + i) (by rw [nm, nI_add, nI_add]) (by omega) (by omega), fS (j := i) rfl (by omega) (by omega), fB, nI_1]
      exact a1
    · rw [a2 j, w_self, w_ne _ _ (by omega)]
      by_cases q : j = i
      · subst q; rw [if_neg (by omega), u_self, if_pos (by omega)]
      · rw [u_ne _ _ q]
        by_cases q2 : i + 1 ≤ j ∧ j < n
        · rw [if_pos q2, if_pos (by omega)]
        · rw [if_neg q2, if_neg (by omega)]
theorem M_cp2 {t g n : Nat} (hs : t < 4) (hf9 : g + n ≤ 40) {k : Int32 → Int32 → Int32 → Int32 → fk_T → Option (Int32 × fk_T)} : ∀ (m i fu : Nat) {τ : fk_T}, i + m = n → m < fu → ∃ τ', L_X5_copy_160 fu (nI t) (nI g) (nI n) (nI i) τ k = k (nI t) (nI g) (nI n) (nI n) τ' ∧ (∀ j, τ'.1 35 j = if 40 * t + g + i ≤ j ∧ j < 40 * t + g + n then τ.1 36 (j - (40 * t + g)) else τ.1 35 j) ∧ (∀ a, a ≠ 35 → τ'.1 a = τ.1 a)
  | m, i, 0, _, _, hf => by omega
  | 0, i, fu + 1, τ, hi, _ => by
    have : i = n := by omega
    subst this
    refine ⟨τ, ?_, fun j => by rw [if_neg (by omega)], fun _ _ => rfl⟩
    rw [L_X5_copy_160, if_pos (by rw [i_le]; omega)]
  | m + 1, i, fu + 1, τ, hi, hf => by
    obtain ⟨τ', a1, a2, a3⟩ := M_cp2 hs hf9 (k := k) m (i + 1) fu (τ := fk_w τ 35 (upd (τ.1 35) (40 * t + g + i) (τ.1 36 i))) (by omega) (by omega)
    refine ⟨τ', ?_, fun j => ?_, fun a ha => by rw [a3 a ha, w_ne _ _ ha]⟩
    · rw [L_X5_copy_160, if_neg (by rw [i_le, nI_tI (by omega), nI_tI (by omega)]; omega), fA (j := i) rfl (by omega) (by omega), fS (j := 40 * t + g + i) (by rw [nm, nI_add, nI_add]) (by omega) (by omega), fB, nI_1]
      exact a1
    · rw [a2 j, w_self, w_ne _ _ (by omega)]
      by_cases q : j = 40 * t + g + i
      · subst q; rw [if_neg (by omega), u_self, if_pos (by omega), show 40 * t + g + i - (40 * t + g) = i by omega]
      · rw [u_ne _ _ q]
        by_cases q2 : 40 * t + g + (i + 1) ≤ j ∧ j < 40 * t + g + n
        · rw [if_pos q2, if_pos (by omega)]
        · rw [if_neg q2, if_neg (by omega)]

theorem Q_copy {σ : fk_T} (hI : Inv σ) (x1 x2 x3 x4 x5 : Int32) : QQ (F_X4_copy x1 x2 x3 x4 x5) (F_X5_copy x1 x2 x3 x4 x5) σ := by
  obtain ⟨hw, hc⟩ := hI.p
  have c1 : ∀ τ, F_X4_within x1 0 3 τ = some (inR x1 0 3, τ) := cR x1 0 3 (by omega) (by omega)
  have c2 : ∀ τ, F_X4_within x3 0 3 τ = some (inR x3 0 3, τ) := cR x3 0 3 (by omega) (by omega)
  cases h1 : inR x1 0 3
  · refine QQ.find hI (k := 0) (by omega) ?_ ?_
    · first | (simp only [F_X4_copy, c1, h1, bS, fb0, if_true, if_false, Bool.true_eq_false, Bool.false_eq_true, reduceIte]; done) | (simp only [F_X4_copy, c1, h1, bS, fb0, if_true, if_false, Bool.true_eq_false, Bool.false_eq_true, reduceIte]; rfl)
    · have m1 : ∀ τ, F_X5_isSheet x1 τ = some (inR x1 0 3, τ) := M_isSheet x1
      first | (simp only [F_X5_copy, m1, h1, bS, fb0, if_true, if_false, Bool.true_eq_false, Bool.false_eq_true, reduceIte]; done) | (simp only [F_X5_copy, m1, h1, bS, fb0, if_true, if_false, Bool.true_eq_false, Bool.false_eq_true, reduceIte]; rfl)
  cases h2 : inR x3 0 3
  · refine QQ.find hI (k := 0) (by omega) ?_ ?_
    · first | (simp only [F_X4_copy, c1, c2, h1, h2, bS, fb0, if_true, if_false, Bool.true_eq_false, Bool.false_eq_true, reduceIte]; done) | (simp only [F_X4_copy, c1, c2, h1, h2, bS, fb0, if_true, if_false, Bool.true_eq_false, Bool.false_eq_true, reduceIte]; rfl)
    · have m1 : ∀ τ, F_X5_isSheet x1 τ = some (inR x1 0 3, τ) := M_isSheet x1
      have m2 : ∀ τ, F_X5_isSheet x3 τ = some (inR x3 0 3, τ) := M_isSheet x3
      first | (simp only [F_X5_copy, m1, m2, h1, h2, bS, fb0, if_true, if_false, Bool.true_eq_false, Bool.false_eq_true, reduceIte]; done) | (simp only [F_X5_copy, m1, m2, h1, h2, bS, fb0, if_true, if_false, Bool.true_eq_false, Bool.false_eq_true, reduceIte]; rfl)
  obtain ⟨s, e1, s1, s2, hs⟩ := inR_of h1
  obtain ⟨t, e3, t1, t2, ht⟩ := inR_of h2
  have hs4 : s < 4 := by omega
  have ht4 : t < 4 := by omega
  obtain ⟨v1, v2, v3, z, hz, v4, v5⟩ := hI.2.2.2.2 s hs4
  obtain ⟨u1, u2, u3, y, hy, u4, u5⟩ := hI.2.2.2.2 t ht4
  have m1 : ∀ τ, F_X5_isSheet x1 τ = some (inR x1 0 3, τ) := M_isSheet x1
  have m2 : ∀ τ, F_X5_isSheet x3 τ = some (inR x3 0 3, τ) := M_isSheet x3
  have em : ∀ (τ : fk_T), τ.1 33 = σ.1 33 → τ.1 34 = σ.1 34 → F_X5_copy x1 x2 x3 x4 x5 τ = if σ.1 22 s = 0 then (F_X5_finds 5 τ).bind (fun q => some (q.1, q.2)) else if σ.1 22 t = 0 then (F_X5_finds 5 τ).bind (fun q => some (q.1, q.2)) else if σ.1 22 s = σ.1 22 t then (if runG x2 x5 z = true ∧ runG x4 x5 y = true then L_X5_copy_123 fk_N x1 x2 x3 x4 x5 0 τ (fun y19 y20 y21 y22 y23 y24 s18 => L_X5_copy_160 fk_N y21 y22 y23 0 s18 (fun y29 y30 y31 y32 s28 => some (y31, s28))) else (F_X5_finds 0 τ).bind (fun q => some (q.1, q.2))) else (F_X5_finds 2 τ).bind (fun q => some (q.1, q.2)) := fun τ y1 y2 => by
    simp only [F_X5_copy, m1, m2, h1, h2, bS, fb0, if_true, if_false, Bool.true_eq_false, Bool.false_eq_true, reduceIte]
    rw [fA e1 hs4 (by omega), fA e3 ht4 (by omega), fA e1 hs4 (by omega), fA e3 ht4 (by omega), fA e1 hs4 (by omega), fA e3 ht4 (by omega), y1, y2, ← v1, ← u1, ← v3, ← u3, v4, u4]
    by_cases d1 : σ.1 22 s = 0
    · rw [if_pos d1, if_pos d1]
    rw [if_neg d1, if_neg d1]
    by_cases d2 : σ.1 22 t = 0
    · rw [if_pos d2, if_pos d2]
    rw [if_neg d2, if_neg d2]
    by_cases d3 : σ.1 22 s = σ.1 22 t
    · rw [if_pos d3, if_pos d3]
      by_cases k1 : x2 < 0
      · rw [if_pos k1, if_neg (fun q => by have := of_decide_eq_true q.1; rw [i_lt, li0] at k1; omega)]
      rw [if_neg k1]
      by_cases k2 : x4 < 0
      · rw [if_pos k2, if_neg (fun q => by have := of_decide_eq_true q.2; rw [i_lt, li0] at k2; omega)]
      rw [if_neg k2]
      by_cases k3 : x5 < 0
      · rw [if_pos k3, if_neg (fun q => by have := of_decide_eq_true q.1; rw [i_lt, li0] at k3; omega)]
      rw [if_neg k3]
      rw [i_lt, li0] at k1 k2 k3
      by_cases k4 : 0 < lg_cmp (x2.toInt64 + x5.toInt64) (nI z).toInt64
      · rw [if_pos k4, if_neg (fun q => by have := of_decide_eq_true q.1; rw [cmp_gt, add64, Int32.toInt_toInt64, nI_tI (by omega)] at k4; omega)]
      rw [if_neg k4]
      by_cases k5 : lg_cmp (x4.toInt64 + x5.toInt64) (nI y).toInt64 ≤ 0
      · rw [if_pos k5, if_pos]
        rw [cmp_gt, add64, Int32.toInt_toInt64, nI_tI (by omega)] at k4
        rw [cmp_le, add64, Int32.toInt_toInt64, nI_tI (by omega)] at k5
        exact ⟨decide_eq_true (by omega), decide_eq_true (by omega)⟩
      · rw [if_neg k5, if_neg (fun q => by have := of_decide_eq_true q.2; rw [cmp_le, add64, Int32.toInt_toInt64, nI_tI (by omega)] at k5; omega)]
    · rw [if_neg d3, if_neg d3]
  by_cases d1 : σ.1 22 s = 0
  · refine QQ.find hI (k := 5) (by omega) ?_ ?_
    · simp only [F_X4_copy, c1, c2, h1, h2, C_misT e1 hs4 d1, bS, fb0, if_true, if_false, Bool.true_eq_false, Bool.false_eq_true, reduceIte]
    · rw [em _ (f25_ne _ _ (by omega)) (f25_ne _ _ (by omega)), if_pos d1]
  by_cases d2 : σ.1 22 t = 0
  · refine QQ.find hI (k := 5) (by omega) ?_ ?_
    · simp only [F_X4_copy, c1, c2, h1, h2, C_misF e1 hs4 d1, C_misT e3 ht4 d2, bS, fb0, if_true, if_false, Bool.true_eq_false, Bool.false_eq_true, reduceIte]
    · rw [em _ (f25_ne _ _ (by omega)) (f25_ne _ _ (by omega)), if_neg d1, if_pos d2]
  by_cases d3 : σ.1 22 s = σ.1 22 t
  · have r1 := C_run e1 hs4 hz v4 (x := x2) (y := x5)
    have r2 := C_run e3 ht4 hy u4 (x := x4) (y := x5)
    by_cases k : runG x2 x5 z = true ∧ runG x4 x5 y = true
    · have k1 := of_decide_eq_true k.1
      have k2 := of_decide_eq_true k.2
      obtain ⟨f, ef, hf⟩ := toN (x := x2) k1.1
      obtain ⟨g, eg, hg⟩ := toN (x := x4) k2.1
      obtain ⟨n, en, hn⟩ := toN (x := x5) k1.2.1
      let σ1 := fk_w σ 24 (va_cpy (σ.1 24) (σ.1 24) (40 * s + f) (40 * t + g) n)
      have q36 : ∀ a, a ≠ 24 → σ1.1 a = σ.1 a := fun a ha => w_ne _ _ ha
      obtain ⟨τ1, a1, a2, a3⟩ := M_cp1 hs4 (by omega : f + n ≤ 40) (x3 := nI t) (x4 := nI g) (k := fun y19 y20 y21 y22 y23 y24 s18 => L_X5_copy_160 fk_N y21 y22 y23 0 s18 (fun y29 y30 y31 y32 s28 => some (y31, s28))) n 0 fk_N (τ := σ1) (by omega) (by unfold fk_N; omega)
      obtain ⟨τ2, b1, b2, b3⟩ := M_cp2 ht4 (by omega : g + n ≤ 40) (k := fun y29 y30 y31 y32 s28 => some (y31, s28)) n 0 fk_N (τ := τ1) (by omega) (by unfold fk_N; omega)
      refine ⟨nI n, σ1, τ2, ?_, ?_, ?_⟩
      · simp only [F_X4_copy, c1, c2, h1, h2, C_misF e1 hs4 d1, C_misF e3 ht4 d2, bS, fb0, if_true, if_false, Bool.true_eq_false, Bool.false_eq_true, reduceIte]
        rw [fA e1 hs4 (by omega), fA e3 ht4 (by omega), if_pos d3, r1, bS, k.1]
        simp only [bS, fb0, if_true, if_false, Bool.true_eq_false, Bool.false_eq_true, reduceIte]
        rw [r2, bS, k.2]
        simp only [bS, fb0, if_true, if_false, Bool.true_eq_false, Bool.false_eq_true, reduceIte]
        unfold F_X2_move
        rw [fY (s0 := 40 * s + f) (d0 := 40 * t + g) (m := n) (by rw [e1, ef, nm, nI_add]) (by rw [e3, eg, nm, nI_add]) en (by omega) (by omega) (by omega) (by omega), bS, en]
      · rw [em σ1 (q36 33 (by omega)) (q36 34 (by omega)), if_neg d1, if_neg d2, if_pos d3, if_pos k, e1, e3, ef, eg, en]
        exact a1.trans b1
      · have e : ∀ a, a ≠ 24 → a ≠ 35 → a ≠ 36 → τ2.1 a = σ.1 a := fun a h1 h2 h3 => by rw [b3 a h2, a3 a h3, q36 a h1]
        refine hI.sh (fun a ha => e a (by omega) (by omega) (by omega)) (fun s' hs' => ?_)
        obtain ⟨w1, w2, w3, z', hz', w4, w5⟩ := hI.2.2.2.2 s' hs'
        rw [e 22 (by omega) (by omega) (by omega), e 23 (by omega) (by omega) (by omega), e 33 (by omega) (by omega) (by omega), e 34 (by omega) (by omega) (by omega)]
        refine ⟨w1, w2, w3, z', hz', w4, fun i hi => ?_⟩
        rw [b3 24 (by omega), a3 24 (by omega), b2]
        show va_cpy (σ.1 24) (σ.1 24) (40 * s + f) (40 * t + g) n (40 * s' + i) = _
        unfold va_cpy
        by_cases q : 40 * t + g ≤ 40 * s' + i ∧ 40 * s' + i < 40 * t + g + n
        · rw [if_pos q, if_pos (by omega), a2, if_pos (by omega), q36 35 (by omega)]
          have := v5 (f + (40 * s' + i - (40 * t + g))) (by omega)
          rw [show 40 * s + (f + (40 * s' + i - (40 * t + g))) = 40 * s + f + (40 * s' + i - (40 * t + g)) by omega] at this
          exact this
        · rw [if_neg q, if_neg (by omega), a3 35 (by omega), q36 35 (by omega)]
          exact w5 i hi
    · refine QQ.find hI (k := 0) (by omega) ?_ ?_
      · simp only [F_X4_copy, c1, c2, h1, h2, C_misF e1 hs4 d1, C_misF e3 ht4 d2, bS, fb0, if_true, if_false, Bool.true_eq_false, Bool.false_eq_true, reduceIte]
        rw [fA e1 hs4 (by omega), fA e3 ht4 (by omega), if_pos d3, r1, bS]
        cases p1 : runG x2 x5 z
        · simp only [bS, fb0, if_true, if_false, Bool.true_eq_false, Bool.false_eq_true, reduceIte]
        · simp only [bS, fb0, if_true, if_false, Bool.true_eq_false, Bool.false_eq_true, reduceIte]
          rw [r2, bS, Bool.eq_false_iff.mpr (fun p2 => k ⟨p1, p2⟩)]
          simp only [bS, fb0, if_true, if_false, Bool.true_eq_false, Bool.false_eq_true, reduceIte]
      · rw [em _ (f25_ne _ _ (by omega)) (f25_ne _ _ (by omega)), if_neg d1, if_neg d2, if_pos d3, if_neg k]
  · refine QQ.find hI (k := 2) (by omega) ?_ ?_
    · simp only [F_X4_copy, c1, c2, h1, h2, C_misF e1 hs4 d1, C_misF e3 ht4 d2, bS, fb0, if_true, if_false, Bool.true_eq_false, Bool.false_eq_true, reduceIte]
      rw [fA e1 hs4 (by omega), fA e3 ht4 (by omega), if_neg d3]
    · rw [em _ (f25_ne _ _ (by omega)) (f25_ne _ _ (by omega)), if_neg d1, if_neg d2, if_neg d3]
