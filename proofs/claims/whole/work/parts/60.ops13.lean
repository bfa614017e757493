/-! ===== feed ===== -/
def byV (x : Int32) (l : Nat) : Int32 := ((x.toUInt32 >>> ((8 * nI l).toUInt32 &&& Int32.toUInt32 31)).toInt32) &&& 255
theorem and255 (y : Int32) : 0 ≤ (y &&& 255).toInt ∧ (y &&& 255).toInt ≤ 255 := by
  have h : (y &&& 255).toBitVec = y.toBitVec &&& 255#32 := rfl
  have h2 : (y &&& 255).toBitVec.toNat ≤ 255 := by
    rw [h, BitVec.toNat_and]
    exact Nat.and_le_right
  have h3 : (y &&& 255).toInt = ((y &&& 255).toBitVec.toNat : Int) := by
    rw [← Int32.toInt_toBitVec, BitVec.toInt_eq_toNat_of_lt]
    omega
  rw [h3]
  omega
theorem by_eq (x : Int32) {l : Nat} (hl : l < 4) : ((x >>> ((8 * nI l) &&& 31)).toInt8.toInt32).toInt8.toInt32 = (byV x l).toInt8.toInt32 := by
  have e : ∀ y : Int32, y.toInt8.toInt32.toInt8 = y.toInt8 := fun y => by rw [Int8.toInt8_toInt32]
  rw [e]
  congr 1
  unfold byV
  apply Int8.toBitVec_inj.mp
  have hk : ∃ k : Nat, k ≤ 24 ∧ ((((8 * nI l) &&& 31 : Int32).toBitVec).smod 32#32).toNat = k ∧ ((((8 * nI l).toUInt32 &&& Int32.toUInt32 31)).toBitVec % 32#32).toNat = k := by
    rcases (show l = 0 ∨ l = 1 ∨ l = 2 ∨ l = 3 by omega) with rfl | rfl | rfl | rfl
    · exact ⟨0, by decide⟩
    · exact ⟨8, by decide⟩
    · exact ⟨16, by decide⟩
    · exact ⟨24, by decide⟩
  obtain ⟨k, k1, k2, k3⟩ := hk
  have e1 : (x >>> ((8 * nI l) &&& 31)).toBitVec = x.toBitVec.sshiftRight k := by
    rw [Int32.toBitVec_shiftRight]
    show x.toBitVec.sshiftRight _ = _
    exact congrArg (fun q => x.toBitVec.sshiftRight q) k2
  have e2 : ((x.toUInt32 >>> ((8 * nI l).toUInt32 &&& Int32.toUInt32 31)).toInt32 &&& 255).toBitVec = (x.toBitVec >>> k) &&& 255#32 := by
    show ((x.toUInt32 >>> ((8 * nI l).toUInt32 &&& Int32.toUInt32 31)).toBitVec) &&& 255#32 = _
    congr 1
    rw [UInt32.toBitVec_shiftRight]
    show x.toBitVec >>> _ = _
    exact congrArg (fun q => x.toBitVec >>> q) k3
  show BitVec.signExtend 8 ((x >>> ((8 * nI l) &&& 31)).toBitVec) = BitVec.signExtend 8 (((x.toUInt32 >>> ((8 * nI l).toUInt32 &&& Int32.toUInt32 31)).toInt32 &&& 255).toBitVec)
  rw [e1, e2]
  apply BitVec.eq_of_getLsbD_eq
  intro i hi
  have t : (255#32).getLsbD i = true := by
    rcases (show i = 0 ∨ i = 1 ∨ i = 2 ∨ i = 3 ∨ i = 4 ∨ i = 5 ∨ i = 6 ∨ i = 7 by omega) with rfl | rfl | rfl | rfl | rfl | rfl | rfl | rfl <;> decide
  rw [BitVec.getLsbD_signExtend, BitVec.getLsbD_signExtend, BitVec.getLsbD_and, t, BitVec.getLsbD_sshiftRight, BitVec.getLsbD_ushiftRight]
  simp [show k + i < 32 by omega, show i < 32 by omega, hi, show ¬ 32 ≤ i by omega]

theorem dec_n (m : Nat) : nI (m + 1) - 1 = nI m := by rw [← nI_1, Int32.add_sub_cancel]
theorem dec_m (m : Nat) : nI m + (-1) = nI m - 1 := by rw [Int32.sub_eq_add_neg]
theorem C_fdL {x : Int32} {k : Int32 → Int32 → fk_T → Option (Int32 × fk_T)} : ∀ (m t fu : Nat) {τ : fk_T}, τ.1 16 1 = nI t → t + m ≤ 120 → m < fu → ∃ τ', L_X4_feed_39 fu x (nI m - 1) τ k = k x (-1) τ' ∧ τ'.1 16 1 = nI (t + m) ∧ (∀ i, τ'.1 17 i = if t ≤ i ∧ i < t + m then byV x (m - 1 - (i - t)) else τ.1 17 i) ∧ (∀ a, a ≠ 16 → a ≠ 17 → τ'.1 a = τ.1 a)
  | m, t, 0, _, _, _, hf => by omega
  | 0, t, fu + 1, τ, ht, h2, _ => by
    refine ⟨τ, ?_, ht, fun i => by rw [if_neg (by omega)], fun _ _ _ => rfl⟩
    rw [show nI 0 - 1 = -1 from rfl, L_X4_feed_39, if_pos (by decide)]
  | m + 1, t, fu + 1, τ, ht, h2, hf => by
    obtain ⟨τ', a1, a2, a3, a4⟩ := C_fdL (x := x) (k := k) m (t + 1) fu (τ := fk_w (fk_w τ 17 (upd (τ.1 17) t (byV x m))) 16 (upd (τ.1 16) 1 (nI (t + 1)))) (by rw [w_self, u_self]) (by omega) (by omega)
    refine ⟨τ', ?_, by rw [a2]; congr 1; omega, fun i => ?_, fun a h1 h2 => by rw [a4 a h1 h2, w_ne _ _ h1, w_ne _ _ h2]⟩
    · rw [dec_n, L_X4_feed_39, if_neg (by rw [i_lt, li0, nI_tI (by omega)]; omega)]
      unfold F_X3_append
      rw [ht, if_neg (by rw [i_le, nI_tI (by omega), show (120 : Int32).toInt = 120 by decide]; omega), fS (j := t) rfl (by omega) (by omega), fB, bS, fB, dec_m, w_ne _ _ (show 16 ≠ 17 by omega), ht, nI_1]
      exact a1
    · rw [a3 i, w_ne _ _ (by omega), w_self]
      by_cases q : i = t
      · subst q
        rw [if_neg (by omega), u_self, if_pos (by omega)]
        congr 1
        omega
      · rw [u_ne _ _ q]
        by_cases q2 : t + 1 ≤ i ∧ i < t + 1 + m
        · rw [if_pos q2, if_pos (by omega)]
          congr 1
          omega
        · rw [if_neg q2, if_neg (by omega)]
theorem M_fdL {x : Int32} {k : Int32 → Int32 → fk_T → Option (Int32 × fk_T)} : ∀ (m t fu : Nat) {τ : fk_T}, m ≤ 4 → τ.1 26 7 = nI t → t + m ≤ 120 → m < fu → ∃ τ', L_X5_feed_39 fu x (nI m - 1) τ k = k x (-1) τ' ∧ τ'.1 26 7 = nI (t + m) ∧ (∀ j, j ≠ 7 → τ'.1 26 j = τ.1 26 j) ∧ (∀ i, τ'.1 32 i = if t ≤ i ∧ i < t + m then (byV x (m - 1 - (i - t))).toInt8.toInt32 else τ.1 32 i) ∧ (∀ a, a ≠ 26 → a ≠ 32 → τ'.1 a = τ.1 a)
  | m, t, 0, _, _, _, _, hf => by omega
  | 0, t, fu + 1, τ, _, ht, h2, _ => by
    refine ⟨τ, ?_, ht, fun _ _ => rfl, fun i => by rw [if_neg (by omega)], fun _ _ _ => rfl⟩
    rw [show nI 0 - 1 = -1 from rfl, L_X5_feed_39, if_pos (by decide)]
  | m + 1, t, fu + 1, τ, h4, ht, h2, hf => by
    obtain ⟨τ', a1, a2, a5, a3, a4⟩ := M_fdL (x := x) (k := k) m (t + 1) fu (τ := fk_w (fk_w τ 32 (upd (τ.1 32) t (byV x m).toInt8.toInt32)) 26 (upd (τ.1 26) 7 (nI (t + 1)))) (by omega) (by rw [w_self, u_self]) (by omega) (by omega)
    refine ⟨τ', ?_, by rw [a2]; congr 1; omega, fun j hj => by rw [a5 j hj, w_self, u_ne _ _ hj], fun i => ?_, fun a h1 h2 => by rw [a4 a h1 h2, w_ne _ _ h1, w_ne _ _ h2]⟩
    · rw [dec_n, L_X5_feed_39, if_neg (by rw [i_lt, li0, nI_tI (by omega)]; omega), ht, fS (j := t) rfl (by omega) (by omega), fB, fB, dec_m, w_ne _ _ (show 26 ≠ 32 by omega), ht, nI_1, by_eq x (by omega)]
      exact a1
    · rw [a3 i, w_ne _ _ (by omega), w_self]
      by_cases q : i = t
      · subst q
        rw [if_neg (by omega), u_self, if_pos (by omega)]
        congr 3
        omega
      · rw [u_ne _ _ q]
        by_cases q2 : t + 1 ≤ i ∧ i < t + 1 + m
        · rw [if_pos q2, if_pos (by omega)]
          congr 3
          omega
        · rw [if_neg q2, if_neg (by omega)]
theorem Q_feed {σ : fk_T} (hI : Inv σ) (x1 x2 : Int32) : QQ (F_X4_feed x1 x2) (F_X5_feed x1 x2) σ := by
  obtain ⟨hw, hc⟩ := hI.p
  have c1 : ∀ τ, F_X4_within x2 1 4 τ = some (inR x2 1 4, τ) := cR x2 1 4 (by omega) (by omega)
  cases h1 : inR x2 1 4
  · refine QQ.find hI (k := 0) (by omega) ?_ ?_
    · first | (simp only [F_X4_feed, c1, h1, bS, fb0, if_true, if_false, Bool.true_eq_false, Bool.false_eq_true, reduceIte]; done) | (simp only [F_X4_feed, c1, h1, bS, fb0, if_true, if_false, Bool.true_eq_false, Bool.false_eq_true, reduceIte]; rfl)
    · have m1 : ∀ τ, F_X5_in x2.toInt64 1 4 τ = some (inR x2 1 4, τ) := mR x2 1 4 (by omega) (by omega)
      first | (simp only [F_X5_feed, m1, h1, bS, fb0, if_true, if_false, Bool.true_eq_false, Bool.false_eq_true, reduceIte]; done) | (simp only [F_X5_feed, m1, h1, bS, fb0, if_true, if_false, Bool.true_eq_false, Bool.false_eq_true, reduceIte]; rfl)
  obtain ⟨n, e1, n1, n2, hn⟩ := inR_of h1
  have m1 : ∀ τ, F_X5_in x2.toInt64 1 4 τ = some (inR x2 1 4, τ) := mR x2 1 4 (by omega) (by omega)
  obtain ⟨t, t1, t2, t3, t4⟩ := hI.2.2.2.1
  have ez : nI t + x2 = nI (t + n) := by rw [e1, nI_add]
  by_cases hz : t + n ≤ 120
  · have hz2 : nI (t + n) ≤ 120 := by rw [i_le, nI_tI (by omega), show (120 : Int32).toInt = 120 by decide]; omega
    obtain ⟨s1, a1, a2, a3, a4⟩ := C_fdL (x := x1) (k := fun y6 y7 s5 => some ((s5.1 16 1), s5)) n t fk_N (τ := σ) t2 hz (by unfold fk_N; omega)
    obtain ⟨s2, b1, b2, b5, b3, b4⟩ := M_fdL (x := x1) (k := fun y7 y8 s6 => some ((s6.1 26 7), s6)) n t fk_N (τ := s1) n2 (by rw [a4 26 (by omega) (by omega)]; exact t3) hz (by unfold fk_N; omega)
    have e : ∀ a, a ≠ 16 → a ≠ 17 → a ≠ 26 → a ≠ 32 → s2.1 a = σ.1 a := fun a h1 h2 h3 h4 => (b4 a h3 h4).trans (a4 a h1 h2)
    refine ⟨nI (t + n), s1, s2, ?_, ?_, ?_⟩
    · simp only [F_X4_feed, c1, h1, bS, fb0, if_true, if_false, Bool.true_eq_false, Bool.false_eq_true, reduceIte]
      rw [t2, ez, if_pos hz2, fB, e1]
      refine a1.trans ?_
      rw [a2]
    · simp only [F_X5_feed, m1, h1, bS, fb0, if_true, if_false, Bool.true_eq_false, Bool.false_eq_true, reduceIte]
      rw [a4 26 (by omega) (by omega), t3, ez, if_pos hz2, fB, e1]
      refine b1.trans ?_
      rw [b2]
    · obtain ⟨hp, hk, hf, ht, hs⟩ := hI
      refine ⟨⟨by rw [e 27 (by omega) (by omega) (by omega) (by omega)]; exact hp.1, by rw [e 27 (by omega) (by omega) (by omega) (by omega)]; exact hp.2.fr (fun a h1 h2 => e a (by omega) (by omega) (by omega) (by omega))⟩, hk.fr (e 0 (by omega) (by omega) (by omega) (by omega)) (by rw [b5 4 (by omega), a4 26 (by omega) (by omega)]) (e 30 (by omega) (by omega) (by omega) (by omega)) (fun a h1 h2 => ?_), hf.fr (e 25 (by omega) (by omega) (by omega) (by omega)) (e 31 (by omega) (by omega) (by omega) (by omega)), ⟨t + n, hz, ?_, b2, fun i hi => ?_⟩, hs.fr (e 22 (by omega) (by omega) (by omega) (by omega)) (e 23 (by omega) (by omega) (by omega) (by omega)) (e 24 (by omega) (by omega) (by omega) (by omega)) (e 33 (by omega) (by omega) (by omega) (by omega)) (e 34 (by omega) (by omega) (by omega) (by omega)) (e 35 (by omega) (by omega) (by omega) (by omega))⟩
      · exact e a (by omega) (by omega) (by omega) (by omega)
      · rw [b4 16 (by omega) (by omega)]; exact a2
      · rw [b3 i, b4 17 (by omega) (by omega), a3 i, a4 32 (by omega) (by omega)]
        by_cases q : t ≤ i ∧ i < t + n
        · rw [if_pos q, if_pos q]
          exact ⟨and255 _, rfl⟩
        · rw [if_neg q, if_neg q]
          exact t4 i (by omega)
  · have hz2 : ¬ nI (t + n) ≤ 120 := by rw [i_le, nI_tI (by omega), show (120 : Int32).toInt = 120 by decide]; omega
    refine QQ.find hI (k := 1) (by omega) ?_ ?_
    · simp only [F_X4_feed, c1, h1, bS, fb0, if_true, if_false, Bool.true_eq_false, Bool.false_eq_true, reduceIte]
      rw [t2, ez, if_neg hz2]
    · simp only [F_X5_feed, m1, h1, bS, fb0, if_true, if_false, Bool.true_eq_false, Bool.false_eq_true, reduceIte]
      rw [f25_ne _ _ (by omega), t3, ez, if_neg hz2]
