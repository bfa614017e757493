/-! ===== text: how the class splits the tape ===== -/
theorem l97 : (97 : Int32).toInt = 97 := by decide
theorem l122 : (122 : Int32).toInt = 122 := by decide
theorem l48 : (48 : Int32).toInt = 48 := by decide
theorem l57 : (57 : Int32).toInt = 57 := by decide
theorem C_isL {i : Nat} (hi : i < 120) (τ : fk_T) : F_X1_isLetter (nI i) τ = some (lxL (τ.1 17) i, τ) := by
  unfold F_X1_isLetter lxL
  rw [fA (j := i) rfl hi (by omega), fA (j := i) rfl hi (by omega)]
  by_cases h1 : τ.1 17 i < 97
  · rw [if_pos h1]; rw [i_lt, l97] at h1; rw [decide_eq_false (by omega)]
  · rw [if_neg h1]; rw [i_lt, l97] at h1
    by_cases h2 : 122 < τ.1 17 i
    · rw [if_pos h2]; rw [i_lt, l122] at h2; rw [decide_eq_false (by omega)]
    · rw [if_neg h2]; rw [i_lt, l122] at h2; rw [decide_eq_true (by omega)]
theorem C_isD {i : Nat} (hi : i < 120) (τ : fk_T) : F_X1_isDigit (nI i) τ = some (lxD (τ.1 17) i, τ) := by
  unfold F_X1_isDigit lxD
  rw [fA (j := i) rfl hi (by omega), fA (j := i) rfl hi (by omega)]
  by_cases h1 : τ.1 17 i < 48
  · rw [if_pos h1]; rw [i_lt, l48] at h1; rw [decide_eq_false (by omega)]
  · rw [if_neg h1]; rw [i_lt, l48] at h1
    by_cases h2 : 57 < τ.1 17 i
    · rw [if_pos h2]; rw [i_lt, l57] at h2; rw [decide_eq_false (by omega)]
    · rw [if_neg h2]; rw [i_lt, l57] at h2; rw [decide_eq_true (by omega)]
theorem fbF : fk_b false = 0 := rfl
theorem C_goes {i : Nat} (hi : i < 120) (τ : fk_T) : F_X1_goesOnAt (nI i) τ = some (lxG (τ.1 17) i, τ) := by
  unfold F_X1_goesOnAt
  cases i with
  | zero => rw [if_pos (by decide)]; rfl
  | succ j =>
    rw [if_neg (by rw [i_le, nI_tI (by omega), li0]; omega), C_isL hi, bS, dec_n]
    show _ = some ((lxL (τ.1 17) (j + 1) && lxL (τ.1 17) j) || (lxD (τ.1 17) (j + 1) && lxD (τ.1 17) j), τ)
    dsimp only
    rw [C_isL (by omega), bS, C_isD hi, bS]
    dsimp only
    rw [C_isD (by omega), bS]
    dsimp only
    cases lxL (τ.1 17) (j + 1) <;> cases lxL (τ.1 17) j <;> cases lxD (τ.1 17) (j + 1) <;> cases lxD (τ.1 17) j <;> rfl
theorem mn_nI {a : Nat} (h : a < 100000) : fk_min (nI a) 1000 = nI (min a 1000) := by
  unfold fk_min
  by_cases q : (1000 : Int32) < nI a
  · rw [if_pos q]
    rw [i_lt, nI_tI (by omega), show (1000 : Int32).toInt = 1000 by decide] at q
    rw [show min a 1000 = 1000 by omega]
    rfl
  · rw [if_neg q]
    rw [i_lt, nI_tI (by omega), show (1000 : Int32).toInt = 1000 by decide] at q
    rw [show min a 1000 = a by omega]
theorem C_nuL {t : Nat} (ht : t ≤ 120) {τ : fk_T} (h16 : τ.1 16 1 = nI t) : ∀ (m i a fu : Nat), i + m = t → a ≤ 1000 → m < fu → L_X1_numberAt_4 fu (nI a) (nI i) τ (fun y _ s => some (y, s)) = some (nI (ncK (τ.1 17) (rlK (lxD (τ.1 17)) m i) a i), τ)
  | m, i, a, 0, _, _, hf => by omega
  | 0, i, a, fu + 1, hi, _, _ => by
    have : i = t := by omega
    subst this
    rw [L_X1_numberAt_4, h16, if_pos (by rw [i_le]; omega)]
    rfl
  | m + 1, i, a, fu + 1, hi, ha, hf => by
    rw [L_X1_numberAt_4, h16, if_neg (by rw [i_le, nI_tI (by omega), nI_tI (by omega)]; omega), C_isD (by omega), bS, rlK_s]
    dsimp only
    cases q : lxD (τ.1 17) i
    · rw [if_pos fbF, if_neg (by decide)]
      rfl
    · obtain ⟨d1, d2⟩ := dv_le q
      have e : (10 * nI a) + τ.1 17 i - 48 = nI (10 * a + dv (τ.1 17) i) := by
        have e0 : (10 : Int32) * nI a = nI (10 * a) := nm 10 a
        rw [e0, i_eq, ti_sub (by rw [ti_add (by rw [nI_tI (by omega)]; omega) (by rw [nI_tI (by omega)]; omega), nI_tI (by omega), l48]; omega) (by rw [ti_add (by rw [nI_tI (by omega)]; omega) (by rw [nI_tI (by omega)]; omega), nI_tI (by omega), l48]; omega), ti_add (by rw [nI_tI (by omega)]; omega) (by rw [nI_tI (by omega)]; omega), nI_tI (by omega), nI_tI (by omega), l48]
        omega
      rw [if_neg fbT, if_pos rfl, fA (j := i) rfl (by omega) (by omega), e, fB, fB, mn_nI (by omega), nI_1]
      exact C_nuL ht h16 m (i + 1) _ fu (by omega) (by omega) (by omega)
theorem C_num {t i : Nat} (ht : t ≤ 120) {τ : fk_T} (h16 : τ.1 16 1 = nI t) (hi : i < t) : F_X1_numberAt (nI i) τ = some (nI (ncK (τ.1 17) (rlK (lxD (τ.1 17)) (t - i) i) 0 i), τ) := by
  unfold F_X1_numberAt
  exact C_nuL ht h16 (t - i) i 0 fk_N (by omega) (by omega) (by unfold fk_N; omega)
/-! words -/
theorem fs_ln : ∀ w : Fin 13, (Int32.ofNat (fs_n (1010 + w.val))) >>> ((0 : Int32) &&& 31) = nI (fs_n (1010 + w.val)) := by decide +kernel
theorem J_len {w : Nat} (τ : fk_T) (h : w < 13) : F_J0_length_8abf5 (1010 + w) τ = some (nI (fs_n (1010 + w)), τ) := by
  unfold F_J0_length_8abf5 F_J0_coder_7d493
  rw [if_neg (by decide), bS]
  dsimp only
  rw [fs_ln ⟨w, h⟩]
theorem fs_ch : ∀ (w : Fin 13) (k : Fin 8), k.val < fs_n (1010 + w.val) → (((fs_row (1010 + w.val) k.val) &&& 255).toUInt32 % 65536).toInt32 = fs_row (1010 + w.val) k.val := by decide +kernel
theorem J_chr {w k : Nat} (τ : fk_T) (h : w < 13) (hk : k < fs_n (1010 + w)) : F_J0_charAt_5068e (1010 + w) (nI k) τ = some (fs_row (1010 + w) k, τ) := by
  have h8 := (w_tab ⟨w, h⟩).2.2.2.1
  dsimp only at h8
  have hc := fs_ch ⟨w, h⟩ ⟨k, by omega⟩ hk
  dsimp only at hc
  unfold F_J0_charAt_5068e F_J0_isLatin1_aae02
  rw [if_neg (by decide), if_pos rfl, bS, if_neg (show ¬ fk_b true = 0 from fbT)]
  unfold F_J1_charAt_3b067 F_J0_checkIndex_df160 F_J3_checkIndex_8e157
  rw [if_neg (by rw [i_lt, nI_tI (by omega), li0]; omega), if_pos (show nI k < Int32.ofNat (fs_n (1010 + w)) by rw [show Int32.ofNat (fs_n (1010 + w)) = nI (fs_n (1010 + w)) from rfl, i_lt, nI_tI (by omega), nI_tI (by omega)]; omega), bS, bS, fA (j := k) rfl hk (by omega), bS, hc]
theorem C_iwL {w i t : Nat} (hw : w < 13) (ht : t ≤ 120) {τ : fk_T} (hb9 : i + fs_n (1010 + w) ≤ t) : ∀ (m k fu : Nat), k + m = fs_n (1010 + w) → m < fu → L_X1_isWordAt_42 (1010 + w) fu (nI i) (nI k) τ (fun _ _ s => some (true, s)) = some (decide (∀ j, j < m → τ.1 17 (i + k + j) = fs_row (1010 + w) (k + j)), τ)
  | m, k, 0, _, hf => by omega
  | 0, k, fu + 1, hk, _ => by
    rw [L_X1_isWordAt_42, J_len τ hw, bS]
    dsimp only
    rw [if_pos (by rw [i_le, nI_tI (by omega), nI_tI (by omega)]; omega), decide_eq_true (fun j hj => absurd hj (Nat.not_lt_zero _))]
  | m + 1, k, fu + 1, hk, hf => by
    rw [L_X1_isWordAt_42, J_len τ hw, bS]
    dsimp only
    rw [if_neg (by rw [i_le, nI_tI (by omega), nI_tI (by omega)]; omega), fA (j := i + k) (nI_add i k) (by omega) (by omega), J_chr τ hw (by omega), bS]
    dsimp only
    by_cases q : τ.1 17 (i + k) = fs_row (1010 + w) k
    · rw [if_pos q, fB, nI_1, C_iwL hw ht hb9 m (k + 1) fu (by omega) (by omega)]
      congr 2
      apply decide_eq_decide.mpr
      constructor
      · intro h j hj
        cases j with
        | zero => exact q
        | succ j => have := h j (by omega); rw [show i + k + (j + 1) = i + (k + 1) + j by omega, show k + (j + 1) = k + 1 + j by omega]; exact this
      · intro h j hj
        have := h (j + 1) (by omega)
        rw [show i + k + (j + 1) = i + (k + 1) + j by omega, show k + (j + 1) = k + 1 + j by omega] at this
        exact this
    · rw [if_neg q, decide_eq_false (fun h => q (h 0 (by omega)))]
theorem C_isW {w i t : Nat} (hw : w < 13) (ht : t ≤ 120) (hi : i < t) {τ : fk_T} (h16 : τ.1 16 1 = nI t) : F_X1_isWordAt (nI i) (1010 + w) τ = some (decide (pv (τ.1 17) i (rlK (lxL (τ.1 17)) (t - i) i) = wW.getD w 0), τ) := by
  obtain ⟨t1, t2, t3, t4, t5, t6⟩ := w_tab ⟨w, hw⟩
  dsimp only at t1 t2 t3 t4 t5 t6
  have r1 := rlK_le (lxL (τ.1 17)) (t - i) i
  have r2 := rlK_in (lxL (τ.1 17)) (t - i) i
  have r3 := rlK_end (lxL (τ.1 17)) (t - i) i
  have hf := w_iff (B := τ.1 17) (i := i) (n := rlK (lxL (τ.1 17)) (t - i) i) hw r2
  -- the bytes of a word are letters
  have hl : (∀ j, j < fs_n (1010 + w) → τ.1 17 (i + j) = fs_row (1010 + w) j) → ∀ j, j < fs_n (1010 + w) → lxL (τ.1 17) (i + j) = true := fun h j hj => by
    have := (t6 ⟨j, by omega⟩ hj).2
    exact decide_eq_true (by rw [h j hj]; exact this)
  unfold F_X1_isWordAt
  rw [J_len τ hw, bS, fB]
  dsimp only
  rw [nI_add, h16]
  by_cases q1 : t < i + fs_n (1010 + w)
  · rw [if_pos (by rw [i_lt, nI_tI (by omega), nI_tI (by omega)]; omega), decide_eq_false]
    rw [hf]
    rintro ⟨a, -⟩
    omega
  · rw [if_neg (by rw [i_lt, nI_tI (by omega), nI_tI (by omega)]; omega)]
    have ll := C_iwL hw ht (τ := τ) (i := i) (by omega) (fs_n (1010 + w)) 0 fk_N (by omega) (by unfold fk_N; omega)
    have fin : (i + fs_n (1010 + w) = t ∨ lxL (τ.1 17) (i + fs_n (1010 + w)) = false) → L_X1_isWordAt_42 (1010 + w) fk_N (nI i) 0 τ (fun _ _ s => some (true, s)) = some (decide (pv (τ.1 17) i (rlK (lxL (τ.1 17)) (t - i) i) = wW.getD w 0), τ) := fun hend => by
      refine ll.trans (congrArg (fun b => some (b, τ)) (decide_eq_decide.mpr ?_))
      rw [hf]
      constructor
      · intro h
        have h' : ∀ j, j < fs_n (1010 + w) → τ.1 17 (i + j) = fs_row (1010 + w) j := fun j hj => by
          have := h j hj
          rw [Nat.add_zero, Nat.zero_add] at this
          exact this
        have e : rlK (lxL (τ.1 17)) (t - i) i = fs_n (1010 + w) := by
          rcases Nat.lt_trichotomy (rlK (lxL (τ.1 17)) (t - i) i) (fs_n (1010 + w)) with z | z | z
          · have := hl h' _ z
            rw [r3 (by omega)] at this
            exact absurd this (by decide)
          · exact z
          · have := r2 _ z
            rcases hend with y | y
            · omega
            · rw [y] at this; exact absurd this (by decide)
        exact ⟨e, fun k hk => h' k (by omega)⟩
      · rintro ⟨a, b⟩ j hj
        rw [Nat.add_zero, Nat.zero_add]
        exact b j (by omega)
    by_cases q2 : i + fs_n (1010 + w) = t
    · rw [if_pos (by rw [i_le, nI_tI (by omega), nI_tI (by omega)]; omega)]
      exact fin (Or.inl q2)
    · rw [if_neg (by rw [i_le, nI_tI (by omega), nI_tI (by omega)]; omega), C_isL (by omega), bS]
      dsimp only
      cases q3 : lxL (τ.1 17) (i + fs_n (1010 + w))
      · rw [if_pos fbF]
        exact fin (Or.inr q3)
      · rw [if_neg fbT, decide_eq_false]
        rw [hf]
        rintro ⟨a, -⟩
        have := r3 (by omega)
        rw [a, q3] at this
        exact absurd this (by decide)
theorem C_name {w : Nat} (h : w < 13) (τ : fk_T) : F_X1_nameOf (nI w) τ = some (1010 + w, τ) := by
  rcases (show w = 0 ∨ w = 1 ∨ w = 2 ∨ w = 3 ∨ w = 4 ∨ w = 5 ∨ w = 6 ∨ w = 7 ∨ w = 8 ∨ w = 9 ∨ w = 10 ∨ w = 11 ∨ w = 12 by omega) with rfl | rfl | rfl | rfl | rfl | rfl | rfl | rfl | rfl | rfl | rfl | rfl | rfl <;> rfl
theorem l12 : (12 : Int32).toInt = 12 := by decide
theorem C_wdL {i t : Nat} (ht : t ≤ 120) (hi : i < t) {τ : fk_T} (h16 : τ.1 16 1 = nI t) : ∀ (m w fu : Nat), w + m = 13 → m < fu → L_X1_wordAt_2 fu (nI i) (nI w) τ (fun _ _ s => some (-3, s)) = some (wvI (τ.1 17) i (rlK (lxL (τ.1 17)) (t - i) i) m w, τ)
  | m, w, 0, _, hf => by omega
  | 0, w, fu + 1, hw, _ => by
    have : w = 13 := by omega
    subst this
    rw [L_X1_wordAt_2, if_pos (by decide)]
    rfl
  | m + 1, w, fu + 1, hw, hf => by
    have ih := C_wdL ht hi h16 m (w + 1) fu (by omega) (by omega)
    rw [L_X1_wordAt_2, if_neg (by rw [i_lt, nI_tI (by omega), l12]; omega), C_name (by omega), bS]
    dsimp only
    unfold fk_W
    rw [if_pos (by omega), C_isW (by omega) ht hi h16, bS, wvI_s]
    dsimp only
    by_cases q : pv (τ.1 17) i (rlK (lxL (τ.1 17)) (t - i) i) = wW.getD w 0
    · rw [decide_eq_true q, if_neg fbT, if_pos q]
    · rw [decide_eq_false q, if_pos fbF, if_neg q, fB, nI_1, ih]
theorem C_tok {i t : Nat} (ht : t ≤ 120) (hi : i < t) {τ : fk_T} (h16 : τ.1 16 1 = nI t) : F_X1_tokenAt (nI i) τ = some (tokV (τ.1 17) t i, τ) := by
  unfold F_X1_tokenAt tokV
  rw [C_isD (by omega), bS]
  dsimp only
  cases q : lxD (τ.1 17) i
  · rw [if_pos fbF, if_neg (by decide), C_isL (by omega), bS]
    dsimp only
    cases q2 : lxL (τ.1 17) i
    · rw [if_pos fbF, if_neg (by decide), fA (j := i) rfl (by omega) (by omega)]
      by_cases q3 : τ.1 17 i = 59
      · rw [if_pos q3, if_pos q3]
      · rw [if_neg q3, if_neg q3]
    · rw [if_neg fbT, if_pos rfl]
      have := C_wdL ht hi h16 13 0 fk_N (by omega) (by unfold fk_N; omega)
      unfold F_X1_wordAt
      refine (congrArg (fun o : Option (Int32 × fk_T) => o.bind (fun q => some (q.1, q.2))) this).trans ?_
      rfl
  · rw [if_neg fbT, if_pos rfl, C_num ht h16 hi, bS]
theorem C_spL {t : Nat} (ht : t ≤ 120) {k : Int32 → Int32 → fk_T → Option fk_T} : ∀ (m i fu : Nat) {τ : fk_T}, τ.1 16 1 = nI t → (∀ j, j < i → lxS (τ.1 17) j = true → τ.1 19 (lxC (τ.1 17) j) = tokV (τ.1 17) t j ∧ τ.1 20 (lxC (τ.1 17) j) = nI j) → i + m = t → m < fu → ∃ τ', L_X1_splitTape_4 fu (nI (lxC (τ.1 17) i)) (nI i) τ k = k (nI (lxC (τ.1 17) t)) (nI t) τ' ∧ (∀ a, a ≠ 19 → a ≠ 20 → τ'.1 a = τ.1 a) ∧ ∀ j, j < t → lxS (τ.1 17) j = true → τ'.1 19 (lxC (τ.1 17) j) = tokV (τ.1 17) t j ∧ τ'.1 20 (lxC (τ.1 17) j) = nI j
  | m, i, 0, _, _, _, _, hf => by omega
  | 0, i, fu + 1, τ, h16, hr, hi, _ => by
    have : i = t := by omega
    subst this
    refine ⟨τ, ?_, fun _ _ _ => rfl, hr⟩
    rw [L_X1_splitTape_4, h16, if_pos (by rw [i_le]; omega)]
  | m + 1, i, fu + 1, τ, h16, hr, hi, hf => by
    have hC := lxC_le (τ.1 17) i
    cases q : lxS (τ.1 17) i
    · -- nothing begins here
      have e : L_X1_splitTape_4 (fu + 1) (nI (lxC (τ.1 17) i)) (nI i) τ k = L_X1_splitTape_4 fu (nI (lxC (τ.1 17) (i + 1))) (nI (i + 1)) τ k := by
        rw [L_X1_splitTape_4, h16, if_neg (by rw [i_le, nI_tI (by omega), nI_tI (by omega)]; omega), fA (j := i) rfl (by omega) (by omega), lxC_s, q, if_neg (show ¬ false = true by decide)]
        by_cases b : τ.1 17 i = 32
        · rw [if_pos b, fB, nI_1]
        · have hg : lxG (τ.1 17) i = true := by
            unfold lxS at q
            rw [decide_eq_false b] at q
            cases z : lxG (τ.1 17) i
            · rw [z] at q; exact absurd q (by decide)
            · rfl
          rw [if_neg b, C_goes (by omega), bS]
          dsimp only
          rw [hg, if_neg fbT, fB, nI_1]
      obtain ⟨τ', a1, a2, a3⟩ := C_spL ht (k := k) m (i + 1) fu h16 (fun j hj hs => by
        by_cases z : j = i
        · rw [z, q] at hs; exact absurd hs (by decide)
        · exact hr j (by omega) hs) (by omega) (by omega)
      exact ⟨τ', e.trans a1, a2, a3⟩
    · have b : ¬ τ.1 17 i = 32 := fun z => by
        unfold lxS at q
        rw [decide_eq_true z] at q
        exact absurd q (by simp)
      have hg : lxG (τ.1 17) i = false := by
        unfold lxS at q
        cases z : lxG (τ.1 17) i
        · rfl
        · rw [z] at q; simp at q
      have e : L_X1_splitTape_4 (fu + 1) (nI (lxC (τ.1 17) i)) (nI i) τ k = L_X1_splitTape_4 fu (nI (lxC (τ.1 17) (i + 1))) (nI (i + 1)) (fk_w (fk_w τ 19 (upd (τ.1 19) (lxC (τ.1 17) i) (tokV (τ.1 17) t i))) 20 (upd (τ.1 20) (lxC (τ.1 17) i) (nI i))) k := by
        rw [L_X1_splitTape_4, h16, if_neg (by rw [i_le, nI_tI (by omega), nI_tI (by omega)]; omega), fA (j := i) rfl (by omega) (by omega), if_neg b, C_goes (by omega), bS]
        dsimp only
        rw [hg, if_pos fbF, C_tok ht (by omega) h16, bS]
        dsimp only
        rw [fS (j := lxC (τ.1 17) i) rfl (by omega) (by omega), fS (j := lxC (τ.1 17) i) rfl (by omega) (by omega), fB, fB, nI_1, nI_1, w_ne _ _ (show 20 ≠ 19 by omega), lxC_s, if_pos q]
      have e17 : (fk_w (fk_w τ 19 (upd (τ.1 19) (lxC (τ.1 17) i) (tokV (τ.1 17) t i))) 20 (upd (τ.1 20) (lxC (τ.1 17) i) (nI i))).1 17 = τ.1 17 := by rw [w_ne _ _ (by omega), w_ne _ _ (by omega)]
      have h2 := C_spL ht (k := k) m (i + 1) fu (τ := fk_w (fk_w τ 19 (upd (τ.1 19) (lxC (τ.1 17) i) (tokV (τ.1 17) t i))) 20 (upd (τ.1 20) (lxC (τ.1 17) i) (nI i))) (by rw [w_ne _ _ (by omega), w_ne _ _ (by omega)]; exact h16) (fun j hj hs => by
        rw [e17] at hs ⊢
        rw [w_ne _ _ (show 19 ≠ 20 by omega), w_self, w_self]
        by_cases z : j = i
        · rw [z, u_self, u_self]; exact ⟨rfl, rfl⟩
        · have := lxC_lt (show j < i by omega) hs
          rw [u_ne _ _ (by omega), u_ne _ _ (by omega)]
          exact hr j (by omega) hs) (by omega) (by omega)
      rw [e17] at h2
      obtain ⟨τ', a1, a2, a3⟩ := h2
      exact ⟨τ', e.trans a1, fun a h1 h2 => by rw [a2 a h1 h2, w_ne _ _ h2, w_ne _ _ h1], a3⟩
/-- the tokens as they lie in the class's rows -/
def TK (B : Nat → Int32) (t : Nat) (τ : fk_T) : Prop := (∀ j, j < t → lxS B j = true → τ.1 19 (lxC B j) = tokV B t j ∧ τ.1 20 (lxC B j) = nI j) ∧ τ.1 19 (lxC B t) = -1 ∧ τ.1 20 (lxC B t) = nI t
theorem C_split {t : Nat} (ht : t ≤ 120) {τ : fk_T} (h16 : τ.1 16 1 = nI t) : ∃ τ', F_X1_splitTape τ = some τ' ∧ (∀ a, a ≠ 19 → a ≠ 20 → τ'.1 a = τ.1 a) ∧ TK (τ.1 17) t τ' := by
  have hC := lxC_le (τ.1 17) t
  obtain ⟨τ', a1, a2, a3⟩ := C_spL ht (k := fun y11 y12 s10 => fk_S s10 19 121 y11 (-1) (fun s13 => fk_S s13 20 121 y11 (s13.1 16 1) (fun s14 => some s14))) t 0 fk_N h16 (fun j hj => absurd hj (Nat.not_lt_zero _)) (by omega) (by unfold fk_N; omega)
  refine ⟨fk_w (fk_w τ' 19 (upd (τ'.1 19) (lxC (τ.1 17) t) (-1))) 20 (upd (τ'.1 20) (lxC (τ.1 17) t) (nI t)), ?_, fun a h1 h2 => by rw [w_ne _ _ h2, w_ne _ _ h1, a2 a h1 h2], ?_⟩
  · unfold F_X1_splitTape
    refine a1.trans ?_
    rw [fS (j := lxC (τ.1 17) t) rfl (by omega) (by omega), fS (j := lxC (τ.1 17) t) rfl (by omega) (by omega), w_ne _ _ (show 20 ≠ 19 by omega), w_ne _ _ (show 16 ≠ 19 by omega), a2 16 (by omega) (by omega), h16]
  · refine ⟨fun j hj hs => ?_, ?_, ?_⟩
    · have := lxC_lt hj hs
      rw [w_ne _ _ (show 19 ≠ 20 by omega), w_self, w_self, u_ne _ _ (by omega), u_ne _ _ (by omega)]
      exact a3 j hj hs
    · rw [w_ne _ _ (show 19 ≠ 20 by omega), w_self, u_self]
    · rw [w_self, u_self]
