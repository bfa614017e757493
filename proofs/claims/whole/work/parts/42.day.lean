/-! ===== a pot, a day ===== -/
theorem CP.trm {b : Nat} {σ : fk_T} {G : Nat → Int32} (h : CP b σ G) {i m : Nat} (hi : i < 48) (hm : 13 + i = m) (x : Int32) : CP b (fk_w σ (b + 2) (upd (σ.1 (b + 2)) i x)) (upd G m x) := by subst hm; exact h.tr hi x
def riseG (G : Nat → Int32) (c : Int32) (a b : Nat) : Int32 := c * G (61 + gbt a b) / 20
def leanG (G : Nat → Int32) (a b : Nat) : Int32 := pushG G a - pushG G b
def flopG (r l : Int32) : Bool := if r = 0 then true else if fk_abs l ≤ r then false else true
theorem C_wouldFlop (r l : Int32) (σ : fk_T) : F_X4_wouldFlop r l σ = some (flopG r l, σ) := by
  unfold F_X4_wouldFlop flopG
  repeat' split
  all_goals rfl
theorem C_riftPlace {σ : fk_T} {x y : Int32} {a b : Nat} (hx : x = nI a) (hy : y = nI b) (ha : a < 8) (hb : b < 8) : F_X0_riftPlace x y σ = some (nI (gbt a b), σ) := by
  subst hx; subst hy
  unfold F_X0_riftPlace gbt
  by_cases h : b ≤ a
  · rw [if_pos (by rw [i_le, nI_tI (by omega), nI_tI (by omega)]; omega), if_pos h, nm, nI_add]
  · rw [if_neg (by rw [i_le, nI_tI (by omega), nI_tI (by omega)]; omega), if_neg h, nm, nI_add]
theorem C_riftOf {c : Nat} {σ : fk_T} {G : Nat → Int32} (h : CP c σ G) {x y : Int32} {a b : Nat} (hx : x = nI a) (hy : y = nI b) (ha : a < 8) (hb : b < 8) : F_X0_riftOf c x y σ = some (G (61 + gbt a b), σ) := by
  unfold F_X0_riftOf
  rw [C_riftPlace hx hy ha hb, bS, fA rfl (gbt_lt ha hb) (by omega), h.2.2.2.1 _ (gbt_lt ha hb)]
theorem C_setRift {c : Nat} {σ : fk_T} {G : Nat → Int32} (h : CP c σ G) {x y v : Int32} {a b : Nat} (hx : x = nI a) (hy : y = nI b) (ha : a < 8) (hb : b < 8) : ∃ σ', F_X0_setRift c x y v σ = some σ' ∧ CP c σ' (upd G (61 + gbt a b) v) ∧ FrP c σ σ' := by
  unfold F_X0_setRift
  rw [C_riftPlace hx hy ha hb, bS, fS rfl (gbt_lt ha hb) (by omega)]
  exact ⟨_, rfl, h.ri (gbt_lt ha hb) v, FrP.w _ (by omega)⟩
theorem C_rises {c : Nat} {σ : fk_T} {G : Nat → Int32} (h : CP c σ G) {x y v : Int32} {a b : Nat} (hx : x = nI a) (hy : y = nI b) (ha : a < 8) (hb : b < 8) : F_X0_rises c x y v σ = some (riseG G v a b, σ) := by
  unfold F_X0_rises
  rw [C_riftOf h hx hy ha hb]; rfl
theorem C_leans {c : Nat} {σ : fk_T} {G : Nat → Int32} (h : CP c σ G) {x y : Int32} {a b : Nat} (hx : x = nI a) (hy : y = nI b) (ha : a < 8) (hb : b < 8) : F_X0_leans c x y σ = some (leanG G a b, σ) := by
  unfold F_X0_leans
  rw [C_pushes h hx ha, bS, C_pushes h hy hb]; rfl
theorem d10 {x : Int32} (h : 0 ≤ x.toInt) : (x / 10).toInt = x.toInt / 10 := ti_div (d := 10) (by omega) (by omega) h
theorem d5 {x : Int32} (h : 0 ≤ x.toInt) : (x / 5).toInt = x.toInt / 5 := ti_div (d := 5) (by omega) (by omega) h
theorem d20 {x : Int32} (h : 0 ≤ x.toInt) : (x / 20).toInt = x.toInt / 20 := ti_div (d := 20) (by omega) (by omega) h
theorem l2 : (2 : Int32).toInt = 2 := by decide
theorem l99 : (99 : Int32).toInt = 99 := by decide
theorem l9999 : (9999 : Int32).toInt = 9999 := by decide
theorem l99999 : (99999 : Int32).toInt = 99999 := by decide
theorem max_b {v : Int32} {m : Int} (hm : 0 ≤ m) (h : v.toInt ≤ m) : 0 ≤ (fk_max v 0).toInt ∧ (fk_max v 0).toInt ≤ m := by
  unfold fk_max
  by_cases h1 : v < 0
  · rw [if_pos h1, li0]; omega
  · rw [if_neg h1]; rw [i_lt, li0] at h1; omega
/-- the numbers in a push -/
theorem push_n {G : Nat → Int32} (hw : WF G) {p : Nat} (hp : p < 8) : (0 ≤ (G (21 + p) / 10).toInt ∧ (G (21 + p) / 10).toInt ≤ 9) ∧ (0 ≤ (G (21 + p) / 10 + G (37 + p) / 10).toInt ∧ (G (21 + p) / 10 + G (37 + p) / 10).toInt ≤ 18) ∧ (0 ≤ (2 * (G (21 + p) / 10)).toInt ∧ (2 * (G (21 + p) / 10)).toInt ≤ 18) ∧ ((G (21 + p) / 10 + G (37 + p) / 10 - G (29 + p) / 10).toInt ≤ 18) ∧ ((2 * (G (21 + p) / 10) - G (29 + p) / 5).toInt ≤ 18) := by
  have h1 := hw.lev (k := 21 + p) (by omega) (by omega)
  have h2 := hw.lev (k := 37 + p) (by omega) (by omega)
  have h3 := hw.lev (k := 29 + p) (by omega) (by omega)
  have a1 := d10 h1.1
  have a2 := d10 h2.1
  have a3 := d10 h3.1
  have a4 := d5 h3.1
  have b1 : (G (21 + p) / 10 + G (37 + p) / 10).toInt = (G (21 + p) / 10).toInt + (G (37 + p) / 10).toInt := ti_add (by omega) (by omega)
  have b2 : (2 * (G (21 + p) / 10)).toInt = 2 * (G (21 + p) / 10).toInt := by rw [ti_mul (by rw [l2]; omega) (by rw [l2]; omega), l2]
  have b3 : (G (21 + p) / 10 + G (37 + p) / 10 - G (29 + p) / 10).toInt = (G (21 + p) / 10 + G (37 + p) / 10).toInt - (G (29 + p) / 10).toInt := ti_sub (by omega) (by omega)
  have b4 : (2 * (G (21 + p) / 10) - G (29 + p) / 5).toInt = (2 * (G (21 + p) / 10)).toInt - (G (29 + p) / 5).toInt := ti_sub (by omega) (by omega)
  omega
theorem push_b {G : Nat → Int32} (hw : WF G) {p : Nat} (hp : p < 8) : 0 ≤ (pushG G p).toInt ∧ (pushG G p).toInt ≤ 20 := by
  obtain ⟨h1, h2, h3, h4, h5⟩ := push_n hw hp
  have m1 := max_b (m := 18) (by omega) h4
  have m2 := max_b (m := 18) (by omega) h5
  unfold pushG
  split; omega
  split; omega
  split; omega
  split; omega
  split
  · rw [ti_add (by rw [l2]; omega) (by rw [l2]; omega), l2]; omega
  split; rw [li1]; omega
  split; omega
  rw [li1]; omega
theorem M_pushes {σ : fk_T} (hw : WF (σ.1 27)) {x : Int32} {p : Nat} (hx : x = nI p) (hp : p < 8) : F_X5_pushes x σ = some (pushG (σ.1 27) p, σ) := by
  obtain ⟨h1, h2, h3, h4, h5⟩ := push_n hw hp
  unfold F_X5_pushes
  rw [M_its (b := 1) hx (nlit 1) hp (by omega), bS]
  simp only [fk_B]
  rw [M_its (b := 3) hx (nlit 3) hp (by omega), bS, M_its (b := 2) hx (nlit 2) hp (by omega), bS, M_held, bS, M_its (b := 0) hx (nlit 0) hp (by omega), bS]
  simp only [M_its (σ := σ) (b := 2) hx (nlit 2) hp (by omega), bS, M_held]
  unfold pushG
  rw [max_gh (most := 9999) (v := σ.1 27 (21 + p) / 10 + σ.1 27 (37 + p) / 10 - σ.1 27 (29 + p) / 10) (by rw [l9999]; omega), max_gh (most := 9999) (v := 2 * (σ.1 27 (21 + p) / 10) - σ.1 27 (29 + p) / 5) (by rw [l9999]; omega)]
  rcases kind7 (hw.kind hp) with e | e | e | e | e | e | e <;> simp [e]
theorem M_says {σ : fk_T} {x : Int32} {p : Nat} (hx : x = nI p) (hp : p < 8) : F_X5_says x σ = some (saysG (σ.1 27) p, σ) := by
  unfold F_X5_says
  rw [M_its (b := 1) hx (nlit 1) hp (by omega), bS]
  simp only [M_its (σ := σ) (b := 2) hx (nlit 2) hp (by omega), M_its (σ := σ) (b := 0) hx (nlit 0) hp (by omega), bS]
  unfold saysG saysP
  by_cases hh : σ.1 27 (21 + p) < 50
  · rw [if_pos hh, if_pos hh]
    repeat' split
    all_goals rfl
  · rw [if_neg hh, if_neg hh]
    repeat' split
    all_goals rfl
theorem M_cools {σ : fk_T} {x : Int32} {p : Nat} (hx : x = nI p) (hp : p < 8) : F_X5_cools x σ = some (coolG (σ.1 27) p, σ) := by
  unfold F_X5_cools
  rw [M_its (b := 0) hx (nlit 0) hp (by omega), bS]
  unfold coolG
  repeat' split
  all_goals rfl
theorem M_boils {σ : fk_T} {x : Int32} {p : Nat} (hx : x = nI p) (hp : p < 8) : F_X5_boils x σ = some (boilG (σ.1 27) p, σ) := by
  unfold F_X5_boils
  rw [M_its (b := 0) hx (nlit 0) hp (by omega), bS]
  unfold boilG
  repeat' split
  all_goals rfl
theorem M_rises {σ : fk_T} {x y : Int32} {a b : Nat} (hx : x = nI a) (hy : y = nI b) (ha : a < 8) (hb : b < 8) : F_X5_rises x y σ = some (riseG (σ.1 27) (σ.1 27 3) a b, σ) := by
  unfold F_X5_rises
  have := gbt_lt ha hb
  rw [fA (j := 3) (nlit 3) (by omega) (by omega), M_between hx hy ha hb, bS, fA rfl (by omega) (by omega)]
  rfl
theorem M_leans {σ : fk_T} (hw : WF (σ.1 27)) {x y : Int32} {a b : Nat} (hx : x = nI a) (hy : y = nI b) (ha : a < 8) (hb : b < 8) : F_X5_leans x y σ = some (leanG (σ.1 27) a b, σ) := by
  unfold F_X5_leans
  rw [M_pushes hw hx ha, bS, M_pushes hw hy hb]; rfl
theorem M_size (x : Int32) (σ : fk_T) : F_X5_size x σ = some (fk_abs x, σ) := by
  unfold F_X5_size fk_abs
  split
  · rfl
  · rw [Int32.zero_sub]
theorem M_isFlop {σ : fk_T} (hw : WF (σ.1 27)) {x y : Int32} {a b : Nat} (hx : x = nI a) (hy : y = nI b) (ha : a < 8) (hb : b < 8) : F_X5_isFlop x y σ = some (flopG (riseG (σ.1 27) (σ.1 27 3) a b) (leanG (σ.1 27) a b), σ) := by
  unfold F_X5_isFlop
  rw [M_rises hx hy ha hb, bS]
  simp only [M_leans hw hx hy ha hb, bS, M_size, M_rises hx hy ha hb]
  unfold flopG
  repeat' split
  all_goals rfl
