/-! ===== text: how the reference reads a token ===== -/
theorem tl_add {x y : Int64} (h1 : -9223372036854775808 ≤ x.toInt + y.toInt) (h2 : x.toInt + y.toInt ≤ 9223372036854775807) : (x + y).toInt = x.toInt + y.toInt := by
  rw [Int64.toInt_add]; exact Int.bmod_eq_of_le (by omega) (by omega)
theorem tl_sub {x y : Int64} (h1 : -9223372036854775808 ≤ x.toInt - y.toInt) (h2 : x.toInt - y.toInt ≤ 9223372036854775807) : (x - y).toInt = x.toInt - y.toInt := by
  rw [Int64.toInt_sub]; exact Int.bmod_eq_of_le (by omega) (by omega)
theorem tl_mul {x y : Int64} (h1 : -9223372036854775808 ≤ x.toInt * y.toInt) (h2 : x.toInt * y.toInt ≤ 9223372036854775807) : (x * y).toInt = x.toInt * y.toInt := by
  rw [Int64.toInt_mul]; exact Int.bmod_eq_of_le (by omega) (by omega)
theorem cmpl_le {v b : Int64} : lg_cmp v b ≤ 0 ↔ v.toInt ≤ b.toInt := by
  unfold lg_cmp
  by_cases h : b < v
  · rw [if_pos h]; rw [l_lt] at h
    exact ⟨fun z => absurd z (by decide), fun z => by omega⟩
  · rw [if_neg h]; rw [l_lt] at h
    by_cases h2 : v = b
    · rw [if_pos h2, h2]; exact ⟨fun _ => Int.le_refl _, fun _ => by decide⟩
    · rw [if_neg h2]; exact ⟨fun _ => by omega, fun _ => by decide⟩
theorem cmpl_eq {v b : Int64} : lg_cmp v b = 0 ↔ v.toInt = b.toInt := by
  unfold lg_cmp
  by_cases h : b < v
  · rw [if_pos h]; rw [l_lt] at h
    exact ⟨fun z => absurd z (by decide), fun z => by omega⟩
  · rw [if_neg h]
    by_cases h2 : v = b
    · rw [if_pos h2, h2]; exact ⟨fun _ => rfl, fun _ => rfl⟩
    · rw [if_neg h2]
      exact ⟨fun z => absurd z (by decide), fun z => absurd (l_eq.mpr z) h2⟩
theorem b8_t : ∀ n : Fin 256, ((nI n.val).toInt8.toInt32).toInt = if n.val < 128 then (n.val : Int) else (n.val : Int) - 256 := by decide +kernel
theorem b8 {x : Int32} (h : 0 ≤ x.toInt ∧ x.toInt ≤ 255) : (x.toInt8.toInt32).toInt = if x.toInt < 128 then x.toInt else x.toInt - 256 := by
  obtain ⟨n, e, hn⟩ := toN h.1
  have := b8_t ⟨n, by omega⟩
  dsimp only at this
  rw [e, this, nI_tI (by omega)]
  by_cases q : n < 128
  · rw [if_pos q, if_pos (by omega)]
  · rw [if_neg q, if_neg (by omega)]
def RBy (B : Nat → Int32) (t : Nat) (μ : fk_T) : Prop := t ≤ 120 ∧ μ.1 26 7 = nI t ∧ ∀ i, i < t → (0 ≤ (B i).toInt ∧ (B i).toInt ≤ 255) ∧ μ.1 32 i = (B i).toInt8.toInt32
theorem RBy.fr {B : Nat → Int32} {t : Nat} {μ μ' : fk_T} (h : RBy B t μ) (h1 : μ'.1 26 7 = μ.1 26 7) (h2 : μ'.1 32 = μ.1 32) : RBy B t μ' := by
  unfold RBy; rw [h1, h2]; exact h
theorem M_byte {B : Nat → Int32} {t i : Nat} {μ : fk_T} (h : RBy B t μ) (hi : i < t) : F_X5_byteAt (nI i) μ = some ((B i).toInt8.toInt32, μ) := by
  obtain ⟨h1, h2, h3⟩ := h
  unfold F_X5_byteAt
  rw [h2, if_neg (by rw [i_le, nI_tI (by omega), nI_tI (by omega)]; omega), fA (j := i) rfl (by omega) (by omega), (h3 i hi).2]
theorem M_byteT {B : Nat → Int32} {t : Nat} {μ : fk_T} (h : RBy B t μ) : F_X5_byteAt (nI t) μ = some (-1, μ) := by
  obtain ⟨h1, h2, h3⟩ := h
  unfold F_X5_byteAt
  rw [h2, if_pos (by rw [i_le]; omega)]
theorem M_letter {B : Nat → Int32} {i : Nat} (h : 0 ≤ (B i).toInt ∧ (B i).toInt ≤ 255) (μ : fk_T) : F_X5_letter ((B i).toInt8.toInt32) μ = some (if lxL B i = true then nI (lv B i) else 0, μ) := by
  have e := b8 h
  unfold F_X5_letter
  cases q : lxL B i
  · have q1 := of_decide_eq_false q
    rw [if_neg (show ¬ false = true by decide)]
    by_cases z : (B i).toInt8.toInt32 < 97
    · rw [if_pos z]
    · rw [if_neg z, if_pos]
      rw [i_lt, l97] at z
      rw [i_lt, l122, e]
      split at e <;> (rw [e] at z; split <;> omega)
  · have q1 := lv_le q
    have q2 := of_decide_eq_true q
    rw [if_pos (by omega)] at e
    rw [if_neg (by rw [i_lt, l97, e]; omega), if_neg (by rw [i_lt, l122, e]; omega), if_pos rfl]
    congr 2
    rw [i_eq, ti_add (by rw [ti_sub (by rw [l97, e]; omega) (by rw [l97, e]; omega), l97, li1, e]; omega) (by rw [ti_sub (by rw [l97, e]; omega) (by rw [l97, e]; omega), l97, li1, e]; omega), ti_sub (by rw [l97, e]; omega) (by rw [l97, e]; omega), l97, li1, e, nI_tI (by omega)]
    omega
theorem M_dig {B : Nat → Int32} {i : Nat} (h : 0 ≤ (B i).toInt ∧ (B i).toInt ≤ 255) (μ : fk_T) : F_X5_isDigit ((B i).toInt8.toInt32) μ = some (lxD B i, μ) := by
  have e := b8 h
  unfold F_X5_isDigit lxD
  by_cases h1 : (B i).toInt8.toInt32 < 48
  · rw [if_pos h1]; rw [i_lt, l48, e] at h1
    rw [decide_eq_false (by split at h1 <;> omega)]
  · rw [if_neg h1]; rw [i_lt, l48, e] at h1
    by_cases h2 : 57 < (B i).toInt8.toInt32
    · rw [if_pos h2]; rw [i_lt, l57, e] at h2
      rw [decide_eq_false (by split at h2 <;> omega)]
    · rw [if_neg h2]; rw [i_lt, l57, e] at h2
      rw [decide_eq_true (by split at h1 <;> (first | omega | (split at h2 <;> omega)))]
theorem b8_eq {x : Int32} (h : 0 ≤ x.toInt ∧ x.toInt ≤ 255) {c : Int32} {n : Int} (hc : c.toInt = n) (hn : 0 ≤ n ∧ n < 128) : x.toInt8.toInt32 = c ↔ x = c := by
  have e := b8 h
  rw [i_eq, i_eq, e, hc]
  split <;> omega
theorem M_letT (μ : fk_T) : F_X5_letter (-1) μ = some (0, μ) := by unfold F_X5_letter; rw [if_pos (by decide)]
theorem M_digT (μ : fk_T) : F_X5_isDigit (-1) μ = some (false, μ) := by unfold F_X5_isDigit; rw [if_pos (by decide)]
/-- the place at which the reference reads -/
def at8 (μ : fk_T) (q : Nat) : fk_T := fk_w μ 26 (upd (μ.1 26) 8 (nI q))
theorem at8_8 (μ : fk_T) (q : Nat) : (at8 μ q).1 26 8 = nI q := by unfold at8; rw [w_self, u_self]
theorem at8_i (μ : fk_T) (q : Nat) {i : Nat} (h : i ≠ 8) : (at8 μ q).1 26 i = μ.1 26 i := by unfold at8; rw [w_self, u_ne _ _ h]
theorem at8_a (μ : fk_T) (q : Nat) {a : Nat} (h : a ≠ 26) : (at8 μ q).1 a = μ.1 a := w_ne _ _ h
theorem at8_2 (μ : fk_T) (q : Nat) : (at8 μ q).2 = μ.2 := rfl
theorem at8_at8 (μ : fk_T) (p q : Nat) : at8 (at8 μ p) q = at8 μ q := by
  unfold at8; rw [w_w, w_self, upd_upd]
theorem at8_id {μ : fk_T} {q : Nat} (h : μ.1 26 8 = nI q) : at8 μ q = μ := by
  unfold at8; rw [← h, upd_id, w_id rfl]
theorem RBy.at8 {B : Nat → Int32} {t : Nat} {μ : fk_T} (h : RBy B t μ) (q : Nat) : RBy B t (at8 μ q) := h.fr (at8_i _ _ (by omega)) (at8_a _ _ (by omega))
theorem M_bl {B : Nat → Int32} {t : Nat} : ∀ (m p fu : Nat) {μ : fk_T}, RBy B t μ → μ.1 26 8 = nI p → p + m = t → m < fu → ∃ q, p ≤ q ∧ q ≤ t ∧ (∀ i, p ≤ i → i < q → B i = 32) ∧ (q < t → ¬ B q = 32) ∧ ∀ k, L_X5_next__0 fu μ k = k (at8 μ q)
  | m, p, 0, _, _, _, _, hf => by omega
  | 0, p, fu + 1, μ, h, h8, hp, _ => by
    have : p = t := by omega
    subst this
    refine ⟨p, by omega, by omega, fun i h1 h2 => by omega, fun z => by omega, fun k => ?_⟩
    rw [L_X5_next__0, h8, M_byteT h, bS]
    dsimp only
    rw [if_neg (by decide), at8_id h8]
  | m + 1, p, fu + 1, μ, h, h8, hp, hf => by
    have hb9 := (h.2.2 p (by omega)).1
    by_cases b : B p = 32
    · obtain ⟨q, a1, a2, a3, a4, a5⟩ := M_bl m (p + 1) fu (h.at8 (p + 1)) (at8_8 _ _) (by omega) (by omega)
      refine ⟨q, by omega, a2, fun i h1 h2 => ?_, a4, fun k => ?_⟩
      · by_cases z : i = p
        · rw [z]; exact b
        · exact a3 i (by omega) h2
      · rw [L_X5_next__0, h8, M_byte h (by omega), bS]
        dsimp only
        rw [if_pos ((b8_eq hb9 l32 (by omega)).mpr b), fB, h8, nI_1]
        refine (a5 k).trans ?_
        rw [at8_at8]
    · refine ⟨p, by omega, by omega, fun i h1 h2 => by omega, fun _ => b, fun k => ?_⟩
      rw [L_X5_next__0, h8, M_byte h (by omega), bS]
      dsimp only
      rw [if_neg (fun z => b ((b8_eq hb9 l32 (by omega)).mp z)), at8_id h8]
theorem l999 : (999 : Int64).toInt = 999 := by decide
theorem l10L : (10 : Int64).toInt = 10 := by decide
theorem l48L : (48 : Int64).toInt = 48 := by decide
theorem l27L : (27 : Int64).toInt = 27 := by decide
theorem lbig : (100000000000000000 : Int64).toInt = 100000000000000000 := by decide
theorem M_nuL {B : Nat → Int32} {t : Nat} : ∀ (m i a fu : Nat) {μ : fk_T}, RBy B t μ → μ.1 26 8 = nI i → μ.2.toInt = (a : Int) → a ≤ 9999 → i + m = t → m < fu → ∃ v : Int64, v.toInt = (nrK B (rlK (lxD B) m i) a i : Int) ∧ ∀ k, L_X5_next__185 fu μ k = k ((at8 μ (i + rlK (lxD B) m i)).1, v)
  | m, i, a, 0, _, _, _, _, _, _, hf => by omega
  | 0, i, a, fu + 1, μ, h, h8, h2, ha, hp, _ => by
    have : i = t := by omega
    subst this
    refine ⟨μ.2, h2, fun k => ?_⟩
    rw [L_X5_next__185, h8, M_byteT h, bS, M_digT, bS]
    dsimp only
    rw [if_pos fbF, show i + rlK (lxD B) 0 i = i from rfl, at8_id h8]
  | m + 1, i, a, fu + 1, μ, h, h8, h2, ha, hp, hf => by
    have hb9 := (h.2.2 i (by omega)).1
    cases q : lxD B i
    · rw [rlK_s, q, if_neg (by decide)]
      refine ⟨μ.2, h2, fun k => ?_⟩
      rw [L_X5_next__185, h8, M_byte h (by omega), bS, M_dig hb9, bS]
      dsimp only
      rw [q, if_pos fbF, Nat.add_zero, at8_id h8]
    · obtain ⟨d1, d2⟩ := dv_le q
      have eb : ((B i).toInt8.toInt32).toInt = (B i).toInt := by rw [b8 hb9, if_pos (by omega)]
      rw [rlK_s, q, if_pos rfl]
      by_cases z : 999 < a
      · obtain ⟨v, a1, a2⟩ := M_nuL m (i + 1) a fu (h.at8 (i + 1)) (at8_8 _ _) h2 ha (by omega) (by omega)
        refine ⟨v, ?_, fun k => ?_⟩
        · rw [a1]
          show _ = ((nrK B (rlK (lxD B) m (i + 1)) (if 999 < a then a else a * 10 + dv B i) (i + 1) : Nat) : Int)
          rw [if_pos z]
        · rw [L_X5_next__185, h8, M_byte h (by omega), bS, M_dig hb9, bS]
          dsimp only
          rw [q, if_neg fbT, if_neg (by rw [cmpl_le, l999]; omega), fB, fB]
          dsimp only
          rw [h8, nI_1]
          refine (a2 k).trans ?_
          rw [at8_at8, show i + 1 + rlK (lxD B) m (i + 1) = i + (rlK (lxD B) m (i + 1) + 1) by omega]
      · have em : (μ.2 * 10).toInt = (a : Int) * 10 := by rw [tl_mul (by rw [h2, l10L]; omega) (by rw [h2, l10L]; omega), h2, l10L]
        have ea : (μ.2 * 10 + ((B i).toInt8.toInt32).toInt64).toInt = (a : Int) * 10 + (B i).toInt := by
          rw [tl_add (by rw [em, Int32.toInt_toInt64, eb]; omega) (by rw [em, Int32.toInt_toInt64, eb]; omega), em, Int32.toInt_toInt64, eb]
        have ev : (μ.2 * 10 + ((B i).toInt8.toInt32).toInt64 - 48).toInt = ((a * 10 + dv B i : Nat) : Int) := by
          rw [tl_sub (by rw [ea, l48L]; omega) (by rw [ea, l48L]; omega), ea, l48L]
          omega
        obtain ⟨v, a1, a2⟩ := M_nuL m (i + 1) (a * 10 + dv B i) fu (μ := ((at8 μ (i + 1)).1, μ.2 * 10 + ((B i).toInt8.toInt32).toInt64 - 48)) ((h.at8 (i + 1)).fr rfl rfl) (at8_8 μ (i + 1)) ev (by omega) (by omega) (by omega)
        refine ⟨v, ?_, fun k => ?_⟩
        · rw [a1]
          show _ = ((nrK B (rlK (lxD B) m (i + 1)) (if 999 < a then a else a * 10 + dv B i) (i + 1) : Nat) : Int)
          rw [if_neg z]
        · rw [L_X5_next__185, h8, M_byte h (by omega), bS, M_dig hb9, bS]
          dsimp only
          rw [q, if_neg fbT, if_pos (by rw [cmpl_le, l999]; omega), h8, M_byte h (by omega), bS, fB, fB]
          dsimp only
          rw [h8, nI_1]
          refine (a2 k).trans ?_
          rw [show at8 ((at8 μ (i + 1)).1, μ.2 * 10 + ((B i).toInt8.toInt32).toInt64 - 48) (i + 1 + rlK (lxD B) m (i + 1)) = ((at8 (at8 μ (i + 1)) (i + 1 + rlK (lxD B) m (i + 1))).1, μ.2 * 10 + ((B i).toInt8.toInt32).toInt64 - 48) from rfl, at8_at8, show i + 1 + rlK (lxD B) m (i + 1) = i + (rlK (lxD B) m (i + 1) + 1) by omega]
theorem M_woL {B : Nat → Int32} {t : Nat} : ∀ (m i a fu : Nat) {μ : fk_T}, RBy B t μ → μ.1 26 8 = nI i → μ.2.toInt = (a : Int) → a ≤ 2700000000000000026 → i + m = t → m < fu → ∃ v : Int64, v.toInt = (wrK B (rlK (lxL B) m i) a i : Int) ∧ ∀ k, L_X5_next__103 fu μ k = k ((at8 μ (i + rlK (lxL B) m i)).1, v)
  | m, i, a, 0, _, _, _, _, _, _, hf => by omega
  | 0, i, a, fu + 1, μ, h, h8, h2, ha, hp, _ => by
    have : i = t := by omega
    subst this
    refine ⟨μ.2, h2, fun k => ?_⟩
    rw [L_X5_next__103, h8, M_byteT h, bS, M_letT, bS]
    dsimp only
    rw [if_pos (by decide), show i + rlK (lxL B) 0 i = i from rfl, at8_id h8]
  | m + 1, i, a, fu + 1, μ, h, h8, h2, ha, hp, hf => by
    have hb9 := (h.2.2 i (by omega)).1
    cases q : lxL B i
    · rw [rlK_s, q, if_neg (by decide)]
      refine ⟨μ.2, h2, fun k => ?_⟩
      rw [L_X5_next__103, h8, M_byte h (by omega), bS, M_letter hb9, bS]
      dsimp only
      rw [q, if_neg (show ¬ false = true by decide), if_pos (by decide), Nat.add_zero, at8_id h8]
    · obtain ⟨d0, d1, d2⟩ := lv_le q
      have hle : ¬ (nI (lv B i) ≤ 0) := by rw [i_le, nI_tI (by omega), li0]; omega
      rw [rlK_s, q, if_pos rfl]
      by_cases z : 100000000000000000 < a
      · obtain ⟨v, a1, a2⟩ := M_woL m (i + 1) a fu (h.at8 (i + 1)) (at8_8 _ _) h2 ha (by omega) (by omega)
        refine ⟨v, ?_, fun k => ?_⟩
        · rw [a1]
          show _ = ((wrK B (rlK (lxL B) m (i + 1)) (if 100000000000000000 < a then a else a * 27 + lv B i) (i + 1) : Nat) : Int)
          rw [if_pos z]
        · rw [L_X5_next__103, h8, M_byte h (by omega), bS, M_letter hb9, bS]
          dsimp only
          rw [q, if_pos (show true = true from rfl), if_neg hle, if_neg (by rw [cmpl_le, lbig]; omega), fB, fB]
          dsimp only
          rw [h8, nI_1]
          refine (a2 k).trans ?_
          rw [at8_at8, show i + 1 + rlK (lxL B) m (i + 1) = i + (rlK (lxL B) m (i + 1) + 1) by omega]
      · have em : (μ.2 * 27).toInt = (a : Int) * 27 := by rw [tl_mul (by rw [h2, l27L]; omega) (by rw [h2, l27L]; omega), h2, l27L]
        have ev : (μ.2 * 27 + (nI (lv B i)).toInt64).toInt = ((a * 27 + lv B i : Nat) : Int) := by
          rw [tl_add (by rw [em, Int32.toInt_toInt64, nI_tI (by omega)]; omega) (by rw [em, Int32.toInt_toInt64, nI_tI (by omega)]; omega), em, Int32.toInt_toInt64, nI_tI (by omega)]
          omega
        obtain ⟨v, a1, a2⟩ := M_woL m (i + 1) (a * 27 + lv B i) fu (μ := ((at8 μ (i + 1)).1, μ.2 * 27 + (nI (lv B i)).toInt64)) ((h.at8 (i + 1)).fr rfl rfl) (at8_8 μ (i + 1)) ev (by omega) (by omega) (by omega)
        refine ⟨v, ?_, fun k => ?_⟩
        · rw [a1]
          show _ = ((wrK B (rlK (lxL B) m (i + 1)) (if 100000000000000000 < a then a else a * 27 + lv B i) (i + 1) : Nat) : Int)
          rw [if_neg z]
        · rw [L_X5_next__103, h8, M_byte h (by omega), bS, M_letter hb9, bS]
          dsimp only
          rw [q, if_pos (show true = true from rfl), if_neg hle, if_pos (by rw [cmpl_le, lbig]; omega), h8, M_byte h (by omega), bS]
          dsimp only
          rw [M_letter hb9, bS]
          dsimp only
          rw [q, if_pos (show true = true from rfl), fB, fB]
          dsimp only
          rw [h8, nI_1]
          refine (a2 k).trans ?_
          rw [show at8 ((at8 μ (i + 1)).1, μ.2 * 27 + (nI (lv B i)).toInt64) (i + 1 + rlK (lxL B) m (i + 1)) = ((at8 (at8 μ (i + 1)) (i + 1 + rlK (lxL B) m (i + 1))).1, μ.2 * 27 + (nI (lv B i)).toInt64) from rfl, at8_at8, show i + 1 + rlK (lxL B) m (i + 1) = i + (rlK (lxL B) m (i + 1) + 1) by omega]
/-- what the reference holds of the token at q -/
def TD (B : Nat → Int32) (t q : Nat) (a so : Int32) (v : Int64) : Prop := (q = t ∧ so = 0) ∨ (q < t ∧ B q = 59 ∧ so = 3 ∧ a = nI (q + 1)) ∨ (q < t ∧ lxL B q = true ∧ so = 1 ∧ a = nI (q + rlK (lxL B) (t - q) q) ∧ v.toInt = (wrK B (rlK (lxL B) (t - q) q) 0 q : Int)) ∨ (q < t ∧ lxD B q = true ∧ so = 2 ∧ a = nI (q + rlK (lxD B) (t - q) q) ∧ v.toInt = (nrK B (rlK (lxD B) (t - q) q) 0 q : Int)) ∨ (q < t ∧ lxL B q = false ∧ lxD B q = false ∧ ¬ B q = 59 ∧ so = 4)
/-- nothing but the reading changed -/
def RN (μ μ' : fk_T) : Prop := (∀ a, a ≠ 26 → μ'.1 a = μ.1 a) ∧ ∀ i, i ≠ 8 → i ≠ 9 → i ≠ 10 → μ'.1 26 i = μ.1 26 i
theorem RN.w {μ : fk_T} {i : Nat} (h : i = 8 ∨ i = 9 ∨ i = 10) (x : Int32) : RN μ (fk_w μ 26 (upd (μ.1 26) i x)) := ⟨fun a ha => w_ne _ _ ha, fun j h1 h2 h3 => by rw [w_self, u_ne _ _ (by omega)]⟩
theorem RN.tr {μ μ1 μ2 : fk_T} (h1 : RN μ μ1) (h2 : RN μ1 μ2) : RN μ μ2 := ⟨fun a ha => (h2.1 a ha).trans (h1.1 a ha), fun i a b c => (h2.2 i a b c).trans (h1.2 i a b c)⟩
theorem RN.v {μ : fk_T} (v : Int64) : RN μ (μ.1, v) := ⟨fun _ _ => rfl, fun _ _ _ _ => rfl⟩
theorem RN.at8 (μ : fk_T) (q : Nat) : RN μ (at8 μ q) := RN.w (Or.inl rfl) _
theorem M_nx {B : Nat → Int32} {t q : Nat} {ν : fk_T} (h : RBy B t ν) (h8 : ν.1 26 8 = nI q) (h10 : ν.1 26 10 = nI q) (h2 : ν.2.toInt = 0) (hq : q ≤ t) : ∃ μ', (F_X5_byteAt (ν.1 26 8) ν).bind (fun q6 => if (q6.2.1 26 8) = (q6.2.1 26 7) then (fk_B (fk_w q6.2 26 (upd (q6.2.1 26) 9 0)) (fun s31 => some s31)) else (if q6.1 = 59 then (fk_B (fk_w q6.2 26 (upd (q6.2.1 26) 9 3)) (fun s29 => fk_B (fk_w s29 26 (upd (s29.1 26) 8 ((s29.1 26 8) + 1))) (fun s30 => some s30))) else ((F_X5_letter q6.1 q6.2).bind (fun q7 => if q7.1 ≤ 0 then ((F_X5_isDigit q6.1 q7.2).bind (fun q8 => if (fk_b q8.1) = 0 then (fk_B (fk_w q8.2 26 (upd (q8.2.1 26) 9 4)) (fun s9 => some s9)) else (fk_B (fk_w q8.2 26 (upd (q8.2.1 26) 9 2)) (fun s10 => L_X5_next__185 fk_N  s10 (fun  s18 => some s18))))) else (fk_B (fk_w q7.2 26 (upd (q7.2.1 26) 9 1)) (fun s19 => L_X5_next__103 fk_N  s19 (fun  s28 => some s28))))))) = some μ' ∧ RN ν μ' ∧ μ'.1 26 10 = nI q ∧ TD B t q (μ'.1 26 8) (μ'.1 26 9) μ'.2 := by
  have ht := h.1
  have h7 := h.2.1
  rw [h8]
  by_cases e : q = t
  · subst e
    refine ⟨fk_w ν 26 (upd (ν.1 26) 9 0), ?_, RN.w (by omega) _, by rw [w_self, u_ne _ _ (by omega), h10], Or.inl ⟨rfl, by rw [w_self, u_self]⟩⟩
    rw [M_byteT h, bS]
    dsimp only
    rw [h8, h7, if_pos rfl, fB]
  · have hqt : q < t := by omega
    have hb9 := (h.2.2 q hqt).1
    rw [M_byte h hqt, bS]
    dsimp only
    rw [h8, h7, if_neg (by rw [nI_inj (by omega) (by omega)]; exact e)]
    by_cases s : B q = 59
    · refine ⟨fk_w (fk_w ν 26 (upd (ν.1 26) 9 3)) 26 (upd (upd (ν.1 26) 9 3) 8 (nI (q + 1))), ?_, ?_, ?_, Or.inr (Or.inl ⟨hqt, s, ?_, ?_⟩)⟩
      · rw [if_pos ((b8_eq hb9 l59 (by omega)).mpr s), fB, fB, w_self, u_ne _ _ (show 8 ≠ 9 by omega), h8, nI_1]
      · have := (RN.w (μ := ν) (i := 9) (by omega) 3).tr (RN.w (μ := fk_w ν 26 (upd (ν.1 26) 9 3)) (i := 8) (by omega) (nI (q + 1)))
        rw [w_self] at this
        exact this
      · rw [w_self, u_ne _ _ (by omega), u_ne _ _ (by omega), h10]
      · rw [w_self, u_ne _ _ (by omega), u_self]
      · rw [w_self, u_self]
    · rw [if_neg (fun z => s ((b8_eq hb9 l59 (by omega)).mp z)), M_letter hb9, bS]
      dsimp only
      cases l : lxL B q
      · rw [if_neg (show ¬ false = true by decide), if_pos (by decide), M_dig hb9, bS]
        dsimp only
        cases d : lxD B q
        · rw [if_pos fbF, fB]
          exact ⟨_, rfl, RN.w (by omega) _, by rw [w_self, u_ne _ _ (by omega), h10], Or.inr (Or.inr (Or.inr (Or.inr ⟨hqt, l, d, s, by rw [w_self, u_self]⟩)))⟩
        · obtain ⟨v, a1, a2⟩ := M_nuL (B := B) (t := t) (t - q) q 0 fk_N (μ := fk_w ν 26 (upd (ν.1 26) 9 2)) (h.fr (by rw [w_self, u_ne _ _ (by omega)]) (w_ne _ _ (by omega))) (by rw [w_self, u_ne _ _ (by omega), h8]) h2 (by omega) (by omega) (by unfold fk_N; omega)
          refine ⟨((at8 (fk_w ν 26 (upd (ν.1 26) 9 2)) (q + rlK (lxD B) (t - q) q)).1, v), ?_, ?_, ?_, Or.inr (Or.inr (Or.inr (Or.inl ⟨hqt, d, ?_, ?_, a1⟩)))⟩
          · rw [if_neg fbT, fB]
            exact a2 _
          · exact ((RN.w (by omega) _).tr (RN.at8 _ _)).tr (RN.v v)
          · show (at8 (fk_w ν 26 (upd (ν.1 26) 9 2)) (q + rlK (lxD B) (t - q) q)).1 26 10 = nI q
            rw [at8_i _ _ (by omega), w_self, u_ne _ _ (by omega), h10]
          · show (at8 (fk_w ν 26 (upd (ν.1 26) 9 2)) (q + rlK (lxD B) (t - q) q)).1 26 9 = 2
            rw [at8_i _ _ (by omega), w_self, u_self]
          · exact at8_8 (fk_w ν 26 (upd (ν.1 26) 9 2)) _
      · have d0 := lv_le l
        obtain ⟨v, a1, a2⟩ := M_woL (B := B) (t := t) (t - q) q 0 fk_N (μ := fk_w ν 26 (upd (ν.1 26) 9 1)) (h.fr (by rw [w_self, u_ne _ _ (by omega)]) (w_ne _ _ (by omega))) (by rw [w_self, u_ne _ _ (by omega), h8]) h2 (by omega) (by omega) (by unfold fk_N; omega)
        refine ⟨((at8 (fk_w ν 26 (upd (ν.1 26) 9 1)) (q + rlK (lxL B) (t - q) q)).1, v), ?_, ?_, ?_, Or.inr (Or.inr (Or.inl ⟨hqt, l, ?_, ?_, a1⟩))⟩
        · rw [if_pos (show true = true from rfl), if_neg (by rw [i_le, nI_tI (by omega), li0]; omega), fB]
          exact a2 _
        · exact ((RN.w (by omega) _).tr (RN.at8 _ _)).tr (RN.v v)
        · show (at8 (fk_w ν 26 (upd (ν.1 26) 9 1)) (q + rlK (lxL B) (t - q) q)).1 26 10 = nI q
          rw [at8_i _ _ (by omega), w_self, u_ne _ _ (by omega), h10]
        · show (at8 (fk_w ν 26 (upd (ν.1 26) 9 1)) (q + rlK (lxL B) (t - q) q)).1 26 9 = 1
          rw [at8_i _ _ (by omega), w_self, u_self]
        · exact at8_8 (fk_w ν 26 (upd (ν.1 26) 9 1)) _
theorem M_next {B : Nat → Int32} {t p : Nat} {μ : fk_T} (h : RBy B t μ) (h8 : μ.1 26 8 = nI p) (hp : p ≤ t) : ∃ q μ', F_X5_next_ μ = some μ' ∧ p ≤ q ∧ q ≤ t ∧ (∀ i, p ≤ i → i < q → B i = 32) ∧ (q < t → ¬ B q = 32) ∧ RN μ μ' ∧ μ'.1 26 10 = nI q ∧ TD B t q (μ'.1 26 8) (μ'.1 26 9) μ'.2 := by
  have ht := h.1
  obtain ⟨q, a1, a2, a3, a4, a5⟩ := M_bl (t - p) p fk_N h h8 (by omega) (by unfold fk_N; omega)
  have r1 : RN μ ((fk_w (at8 μ q) 26 (upd ((at8 μ q).1 26) 10 ((at8 μ q).1 26 8))).1, (0 : Int64)) := ((RN.at8 μ q).tr (RN.w (by omega) _)).tr (RN.v 0)
  obtain ⟨μ', b1, b2, b3, b4⟩ := M_nx (B := B) (t := t) (q := q) (ν := ((fk_w (at8 μ q) 26 (upd ((at8 μ q).1 26) 10 ((at8 μ q).1 26 8))).1, (0 : Int64))) (h.fr (r1.2 7 (by omega) (by omega) (by omega)) (r1.1 32 (by omega))) (by show (fk_w (at8 μ q) 26 (upd ((at8 μ q).1 26) 10 ((at8 μ q).1 26 8))).1 26 8 = nI q; rw [w_self, u_ne _ _ (by omega), at8_8]) (by show (fk_w (at8 μ q) 26 (upd ((at8 μ q).1 26) 10 ((at8 μ q).1 26 8))).1 26 10 = nI q; rw [w_self, u_self, at8_8]) (show (0 : Int64).toInt = 0 by decide) a2
  refine ⟨q, μ', ?_, a1, a2, a3, a4, r1.tr b2, b3, b4⟩
  unfold F_X5_next_
  refine (a5 _).trans ?_
  rw [fB, fB]
  exact b1
