/-! ===== PURE PART. numbers ===== -/
theorem ti_add {x y : Int32} (h1 : -2147483648 ≤ x.toInt + y.toInt) (h2 : x.toInt + y.toInt ≤ 2147483647) : (x + y).toInt = x.toInt + y.toInt := by
  rw [Int32.toInt_add]; exact Int.bmod_eq_of_le (by omega) (by omega)
theorem ti_sub {x y : Int32} (h1 : -2147483648 ≤ x.toInt - y.toInt) (h2 : x.toInt - y.toInt ≤ 2147483647) : (x - y).toInt = x.toInt - y.toInt := by
  rw [Int32.toInt_sub]; exact Int.bmod_eq_of_le (by omega) (by omega)
theorem ti_mul {x y : Int32} (h1 : -2147483648 ≤ x.toInt * y.toInt) (h2 : x.toInt * y.toInt ≤ 2147483647) : (x * y).toInt = x.toInt * y.toInt := by
  rw [Int32.toInt_mul]; exact Int.bmod_eq_of_le (by omega) (by omega)
theorem ti_neg {x : Int32} (h1 : -2147483647 ≤ x.toInt) : (-x).toInt = -x.toInt := by
  have := Int32.toInt_lt x
  rw [Int32.toInt_neg]; exact Int.bmod_eq_of_le (by omega) (by omega)
theorem ti_lo (x : Int32) : -2147483648 ≤ x.toInt := Int32.le_toInt x
theorem ti_hi (x : Int32) : x.toInt ≤ 2147483647 := by have := Int32.toInt_lt x; omega
theorem li {n : Nat} (h : n < 2147483648) : (OfNat.ofNat n : Int32).toInt = (n : Int) := nI_toInt (by omega)
theorem li0 : (0 : Int32).toInt = 0 := by decide
theorem li1 : (1 : Int32).toInt = 1 := by decide
theorem lim1 : (-1 : Int32).toInt = -1 := by decide
theorem lL {n : Nat} (h : n < 9223372036854775808) : (OfNat.ofNat n : Int64).toInt = (n : Int) := pk_lT (by omega)
theorem lL0 : (0 : Int64).toInt = 0 := by decide
theorem lL1 : (1 : Int64).toInt = 1 := by decide
theorem lLm1 : (-1 : Int64).toInt = -1 := by decide
theorem ti_div {x : Int32} {d : Nat} (hd : 0 < d) (hd2 : d < 2147483648) (hx : 0 ≤ x.toInt) : (x / nI d).toInt = x.toInt / d := by
  rw [Int32.toInt_div_of_ne_right _ _ (fun h => by have h2 := congrArg Int32.toInt h; rw [nI_toInt (by omega), lim1] at h2; omega), nI_toInt (by omega)]
  exact Int.tdiv_eq_ediv_of_nonneg hx
theorem i_lt {x y : Int32} : x < y ↔ x.toInt < y.toInt := Int32.lt_iff_toInt_lt
theorem i_le {x y : Int32} : x ≤ y ↔ x.toInt ≤ y.toInt := Int32.le_iff_toInt_le
theorem i_eq {x y : Int32} : x = y ↔ x.toInt = y.toInt := Int32.toInt_inj.symm
theorem l_le {x y : Int64} : x ≤ y ↔ x.toInt ≤ y.toInt := Int64.le_iff_toInt_le
theorem l_lt {x y : Int64} : x < y ↔ x.toInt < y.toInt := Int64.lt_iff_toInt_lt
theorem l_eq {x y : Int64} : x = y ↔ x.toInt = y.toInt := Int64.toInt_inj.symm
theorem nl (a p : Nat) : (OfNat.ofNat a : Int32) + nI p = nI (a + p) := nI_add a p
theorem nm (a p : Nat) : (OfNat.ofNat a : Int32) * nI p = nI (a * p) := pk_mul a p
theorem nlit (a : Nat) : (OfNat.ofNat a : Int32) = nI a := rfl
/-- an int that isn't negative is a Nat -/
theorem toN {x : Int32} (h : 0 ≤ x.toInt) : ∃ p : Nat, x = nI p ∧ (p : Int) = x.toInt := by
  have h2 := ti_hi x
  refine ⟨x.toInt.toNat, ?_, by omega⟩
  rw [i_eq, nI_toInt (by omega)]
  omega
theorem nI_tI {p : Nat} (h : p < 2147483648) : (nI p).toInt = (p : Int) := nI_toInt (by omega)
theorem nI_cl {p : Nat} (h : p < 2147483648) : (nI p).toNatClampNeg = p := nI_clamp (by omega)
theorem nI_inj {a b : Nat} (ha : a < 2147483648) (hb : b < 2147483648) : nI a = nI b ↔ a = b := nI_eq (by omega) (by omega)
/-! ===== terms ===== -/
theorem fb0 (b : Bool) : (fk_b b = 0) = (b = false) := by cases b <;> decide
theorem fb1 (b : Bool) : (fk_b b = 1) = (b = true) := by cases b <;> decide
theorem fA {α : Type} {g : Nat → Int32} {N j : Nat} {x : Int32} {k : Int32 → Option α} (hx : x = nI j) (hj : j < N) (hN : N < 2147483648) : fk_A g N x k = k (g j) := by
  subst hx
  unfold fk_A
  rw [nI_cl (by omega), if_neg]
  rintro (h | h)
  · rw [i_lt, nI_tI (by omega), li0] at h; omega
  · omega
theorem fS {α : Type} {σ : fk_T} {a N j : Nat} {x v : Int32} {k : fk_T → Option α} (hx : x = nI j) (hj : j < N) (hN : N < 2147483648) : fk_S σ a N x v k = k (fk_w σ a (upd (σ.1 a) j v)) := by
  subst hx
  unfold fk_S
  rw [nI_cl (by omega), if_neg]
  rintro (h | h)
  · rw [i_lt, nI_tI (by omega), li0] at h; omega
  · omega
theorem fY {α : Type} {σ : fk_T} {a0 n0 a1 n1 s0 d0 m : Nat} {sp dp n : Int32} {k : fk_T → Option α} (h1 : sp = nI s0) (h2 : dp = nI d0) (h3 : n = nI m) (h4 : s0 + m ≤ n0) (h5 : d0 + m ≤ n1) (h6 : n0 < 2147483648) (h7 : n1 < 2147483648) : fk_Y σ a0 n0 sp a1 n1 dp n k = k (fk_w σ a1 (va_cpy (σ.1 a0) (σ.1 a1) s0 d0 m)) := by
  subst h1; subst h2; subst h3
  unfold fk_Y
  rw [nI_cl (by omega), nI_cl (by omega), nI_cl (by omega), if_neg]
  rintro (h | h | h | h | h)
  · rw [i_lt, nI_tI (by omega), li0] at h; omega
  · rw [i_lt, nI_tI (by omega), li0] at h; omega
  · rw [i_lt, nI_tI (by omega), li0] at h; omega
  · omega
  · omega
theorem w_self (σ : fk_T) (a : Nat) (g : Nat → Int32) : (fk_w σ a g).1 a = g := by simp [fk_w]
theorem w_ne (σ : fk_T) {a x : Nat} (g : Nat → Int32) (h : x ≠ a) : (fk_w σ a g).1 x = σ.1 x := by simp [fk_w, h]
theorem w_2 (σ : fk_T) (a : Nat) (g : Nat → Int32) : (fk_w σ a g).2 = σ.2 := rfl
theorem u_self (f : Nat → Int32) (k : Nat) (x : Int32) : upd f k x k = x := if_pos rfl
theorem u_ne (f : Nat → Int32) {k j : Nat} (x : Int32) (h : j ≠ k) : upd f k x j = f j := if_neg h
theorem bS {α β : Type} (a : α) (f : α → Option β) : (some a).bind f = f a := rfl
/-! ===== ranges asked by class and reference ===== -/
theorem C_within (v a b : Int32) (σ : fk_T) : F_X4_within v a b σ = some (decide (a.toInt ≤ v.toInt ∧ v.toInt ≤ b.toInt), σ) := by
  unfold F_X4_within
  by_cases h1 : a.toInt ≤ v.toInt <;> by_cases h2 : v.toInt ≤ b.toInt <;> simp [i_lt, i_le, h1, h2, Int.not_le.mp, Int.not_lt.mpr] <;> omega
theorem M_in (v a b : Int64) (σ : fk_T) : F_X5_in v a b σ = some (decide (a.toInt ≤ v.toInt ∧ v.toInt ≤ b.toInt), σ) := by
  unfold F_X5_in
  have e1 : lg_cmp v a < 0 ↔ v.toInt < a.toInt := by
    unfold lg_cmp
    by_cases h : a < v
    · rw [if_pos h]; rw [l_lt] at h; constructor
      · intro z; exact absurd z (by decide)
      · intro z; omega
    · rw [if_neg h]; rw [l_lt] at h
      by_cases h2 : v = a
      · rw [if_pos h2, h2]; constructor
        · intro z; exact absurd z (by decide)
        · intro z; omega
      · rw [if_neg h2]; rw [l_eq] at h2; constructor
        · intro; omega
        · intro; decide
  have e2 : 0 < lg_cmp v b ↔ b.toInt < v.toInt := by
    unfold lg_cmp
    by_cases h : b < v
    · rw [if_pos h]; rw [l_lt] at h; constructor
      · intro; exact h
      · intro; decide
    · rw [if_neg h]; rw [l_lt] at h
      by_cases h2 : v = b
      · rw [if_pos h2, h2]; constructor
        · intro z; exact absurd z (by decide)
        · intro z; omega
      · rw [if_neg h2]; constructor
        · intro z; exact absurd z (by decide)
        · intro z; omega
  by_cases h1 : a.toInt ≤ v.toInt
  · rw [if_neg (by rw [e1]; omega)]
    by_cases h2 : v.toInt ≤ b.toInt
    · rw [if_neg (by rw [e2]; omega)]; simp [h1, h2]
    · rw [if_pos (by rw [e2]; omega)]; simp [h2]
  · rw [if_pos (by rw [e1]; omega)]; simp [h1]
/-! ===== a number held between 0 and a most ===== -/
def gh (v most : Int32) : Int32 := if 0 ≤ v then (if v ≤ most then v else most) else 0
theorem M_held (v most : Int32) (σ : fk_T) : F_X5_held v 0 most σ = some (gh v most, σ) := by
  unfold F_X5_held gh
  split
  · split <;> rfl
  · rfl
theorem gh_b (v : Int32) {most : Int32} (h : 0 ≤ most.toInt) : 0 ≤ (gh v most).toInt ∧ (gh v most).toInt ≤ most.toInt := by
  unfold gh
  by_cases h1 : 0 ≤ v
  · rw [if_pos h1]
    rw [i_le, li0] at h1
    by_cases h2 : v ≤ most
    · rw [if_pos h2]; rw [i_le] at h2; exact ⟨h1, h2⟩
    · rw [if_neg h2]; exact ⟨h, Int.le_refl _⟩
  · rw [if_neg h1, li0]; exact ⟨Int.le_refl _, h⟩
theorem gh_in {v most : Int32} (h0 : 0 ≤ v.toInt) (h1 : v.toInt ≤ most.toInt) : gh v most = v := by
  unfold gh
  rw [if_pos (by rw [i_le, li0]; exact h0), if_pos (by rw [i_le]; exact h1)]
theorem min_gh {v most : Int32} (h : 0 ≤ v.toInt) : fk_min v most = gh v most := by
  unfold fk_min gh
  rw [if_pos (show (0 : Int32) ≤ v by rw [i_le, li0]; exact h)]
  by_cases h2 : v ≤ most
  · rw [if_pos h2, if_neg (show ¬ most < v by rw [i_le] at h2; rw [i_lt]; omega)]
  · rw [if_neg h2, if_pos (show most < v by rw [i_le] at h2; rw [i_lt]; omega)]
theorem max_gh {v most : Int32} (h : v.toInt ≤ most.toInt) : fk_max v 0 = gh v most := by
  unfold fk_max gh
  by_cases h1 : 0 ≤ v
  · rw [if_pos h1, if_neg (by rw [i_le] at h1; rw [i_lt]; omega), if_pos (by rw [i_le]; exact h)]
  · rw [if_neg h1, if_pos (by rw [i_le] at h1; rw [i_lt]; omega)]
theorem mm_gh {v most : Int32} (h : 0 ≤ most.toInt) : fk_max 0 (fk_min v most) = gh v most := by
  unfold fk_max fk_min gh
  by_cases h2 : v ≤ most
  · rw [if_neg (show ¬ most < v by rw [i_le] at h2; rw [i_lt]; omega), if_pos h2]
    by_cases h1 : 0 ≤ v
    · rw [if_pos h1]
      by_cases h3 : 0 < v
      · rw [if_pos h3]
      · rw [if_neg h3, i_eq]; rw [i_le] at h1; rw [i_lt] at h3; omega
    · rw [if_neg h1, if_neg (by rw [i_le] at h1; rw [i_lt]; omega)]
  · rw [if_pos (show most < v by rw [i_le] at h2; rw [i_lt]; omega), if_neg h2, if_pos (show (0 : Int32) ≤ v by rw [i_le] at h2 ⊢; rw [li0]; omega)]
    by_cases h3 : 0 < most
    · rw [if_pos h3]
    · rw [if_neg h3, i_eq, li0]; rw [i_lt, li0] at h3; omega
/-- adding to a place of the row -/
def ga (G : Nat → Int32) (k : Nat) (x most : Int32) : Nat → Int32 := upd G k (gh (G k + x) most)
theorem M_adds {σ : fk_T} {w x most : Int32} {k : Nat} (hw : w = nI k) (hk : k < 135) : F_X5_adds w x most σ = some (fk_w σ 27 (ga (σ.1 27) k x most)) := by
  unfold F_X5_adds
  rw [fA hw hk (by omega), M_held, bS, fS hw hk (by omega)]
  rfl
theorem M_becomes {σ : fk_T} {w x : Int32} {k : Nat} (hw : w = nI k) (hk : k < 135) : F_X5_becomes w x σ = some (σ.1 27 k, fk_w σ 27 (upd (σ.1 27) k x)) := by
  unfold F_X5_becomes
  rw [fA hw hk (by omega), fS hw hk (by omega)]
theorem M_its {σ : fk_T} {p w : Int32} {a b : Nat} (hp : p = nI a) (hw : w = nI b) (ha : a < 8) (hb : b < 6) : F_X5_its p w σ = some (σ.1 27 (13 + 8 * b + a), σ) := by
  subst hp; subst hw
  unfold F_X5_its
  rw [fA (j := 13 + 8 * b + a) (by rw [nm, nl, nI_add]) (by omega) (by omega)]
theorem M_sets {σ : fk_T} {p w v : Int32} {a b : Nat} (hp : p = nI a) (hw : w = nI b) (ha : a < 8) (hb : b < 6) : F_X5_sets p w v σ = some (fk_w σ 27 (upd (σ.1 27) (13 + 8 * b + a) v)) := by
  subst hp; subst hw
  unfold F_X5_sets
  rw [fS (j := 13 + 8 * b + a) (by rw [nm, nl, nI_add]) (by omega) (by omega)]
theorem M_finds {σ : fk_T} {x : Int32} {k : Nat} (hx : x = nI k) (hk : k < 7) : F_X5_finds x σ = some (-1000001 - x, fk_w σ 31 (upd (σ.1 31) k (σ.1 31 k + 1))) := by
  unfold F_X5_finds
  rw [fA hx hk (by omega), fS hx hk (by omega)]
theorem C_found {σ : fk_T} {x : Int32} {k : Nat} (hx : x = nI k) (hk : k < 7) : F_X4_found x σ = some (-1000001 - x, fk_w σ 25 (upd (σ.1 25) k (σ.1 25 k + 1))) := by
  unfold F_X4_found
  rw [fA hx hk (by omega), fS hx hk (by omega)]
/-- where the rift between two lies -/
def gbt (a b : Nat) : Nat := if b ≤ a then 8 * b + a else 8 * a + b
theorem gbt_lt {a b : Nat} (ha : a < 8) (hb : b < 8) : gbt a b < 64 := by unfold gbt; split <;> omega
theorem M_between {σ : fk_T} {x y : Int32} {a b : Nat} (hx : x = nI a) (hy : y = nI b) (ha : a < 8) (hb : b < 8) : F_X5_between x y σ = some (nI (61 + gbt a b), σ) := by
  subst hx; subst hy
  unfold F_X5_between gbt
  by_cases h : b ≤ a
  · rw [if_pos (by rw [i_le, nI_tI (by omega), nI_tI (by omega)]; omega), if_pos h, nm, nI_add, nl]
  · rw [if_neg (by rw [i_le, nI_tI (by omega), nI_tI (by omega)]; omega), if_neg h, nm, nI_add, nl]
