/-! ===== constants, switches ===== -/
theorem cs_bipush_m10 : (Int8.ofInt (-10)).toInt32 = (-10) := by decide
theorem cs_bipush_m3 : (Int8.ofInt (-3)).toInt32 = (-3) := by decide
theorem cs_bipush_m2 : (Int8.ofInt (-2)).toInt32 = (-2) := by decide
theorem cs_bipush_6 : (Int8.ofInt 6).toInt32 = 6 := by decide
theorem cs_bipush_7 : (Int8.ofInt 7).toInt32 = 7 := by decide
theorem cs_bipush_8 : (Int8.ofInt 8).toInt32 = 8 := by decide
theorem cs_bipush_9 : (Int8.ofInt 9).toInt32 = 9 := by decide
theorem cs_bipush_10 : (Int8.ofInt 10).toInt32 = 10 := by decide
theorem cs_bipush_11 : (Int8.ofInt 11).toInt32 = 11 := by decide
theorem cs_bipush_12 : (Int8.ofInt 12).toInt32 = 12 := by decide
theorem cs_bipush_13 : (Int8.ofInt 13).toInt32 = 13 := by decide
theorem cs_bipush_14 : (Int8.ofInt 14).toInt32 = 14 := by decide
theorem cs_bipush_16 : (Int8.ofInt 16).toInt32 = 16 := by decide
theorem cs_bipush_20 : (Int8.ofInt 20).toInt32 = 20 := by decide
theorem cs_bipush_21 : (Int8.ofInt 21).toInt32 = 21 := by decide
theorem cs_bipush_24 : (Int8.ofInt 24).toInt32 = 24 := by decide
theorem cs_bipush_30 : (Int8.ofInt 30).toInt32 = 30 := by decide
theorem cs_bipush_32 : (Int8.ofInt 32).toInt32 = 32 := by decide
theorem cs_bipush_37 : (Int8.ofInt 37).toInt32 = 37 := by decide
theorem cs_bipush_40 : (Int8.ofInt 40).toInt32 = 40 := by decide
theorem cs_bipush_45 : (Int8.ofInt 45).toInt32 = 45 := by decide
theorem cs_bipush_48 : (Int8.ofInt 48).toInt32 = 48 := by decide
theorem cs_bipush_50 : (Int8.ofInt 50).toInt32 = 50 := by decide
theorem cs_bipush_53 : (Int8.ofInt 53).toInt32 = 53 := by decide
theorem cs_bipush_57 : (Int8.ofInt 57).toInt32 = 57 := by decide
theorem cs_bipush_59 : (Int8.ofInt 59).toInt32 = 59 := by decide
theorem cs_bipush_60 : (Int8.ofInt 60).toInt32 = 60 := by decide
theorem cs_bipush_61 : (Int8.ofInt 61).toInt32 = 61 := by decide
theorem cs_bipush_63 : (Int8.ofInt 63).toInt32 = 63 := by decide
theorem cs_bipush_64 : (Int8.ofInt 64).toInt32 = 64 := by decide
theorem cs_bipush_97 : (Int8.ofInt 97).toInt32 = 97 := by decide
theorem cs_bipush_99 : (Int8.ofInt 99).toInt32 = 99 := by decide
theorem cs_bipush_100 : (Int8.ofInt 100).toInt32 = 100 := by decide
theorem cs_bipush_120 : (Int8.ofInt 120).toInt32 = 120 := by decide
theorem cs_bipush_122 : (Int8.ofInt 122).toInt32 = 122 := by decide
theorem cs_bipush_125 : (Int8.ofInt 125).toInt32 = 125 := by decide
theorem cs_iconst_m1 : Int32.ofInt (-1) = (-1) := by decide
theorem cs_iconst_0 : Int32.ofInt 0 = 0 := by decide
theorem cs_iconst_1 : Int32.ofInt 1 = 1 := by decide
theorem cs_iconst_2 : Int32.ofInt 2 = 2 := by decide
theorem cs_iconst_3 : Int32.ofInt 3 = 3 := by decide
theorem cs_iconst_4 : Int32.ofInt 4 = 4 := by decide
theorem cs_iconst_5 : Int32.ofInt 5 = 5 := by decide
theorem cs_lconst_0 : Int64.ofNat ((0 : Fin 2) : Nat) = 0 := by decide
theorem cs_lconst_1 : Int64.ofNat ((1 : Fin 2) : Nat) = 1 := by decide
theorem cs_nz_5 : ¬ (5 : Int32) = 0 := by decide
theorem cs_nz_6 : ¬ (6 : Int32) = 0 := by decide
theorem cs_nz_8 : ¬ (8 : Int32) = 0 := by decide
theorem cs_nz_10 : ¬ (10 : Int32) = 0 := by decide
theorem cs_nz_20 : ¬ (20 : Int32) = 0 := by decide
theorem cs_sipush_135 : (Int16.ofInt 135).toInt32 = 135 := by decide
theorem cs_sipush_200 : (Int16.ofInt 200).toInt32 = 200 := by decide
theorem cs_sipush_255 : (Int16.ofInt 255).toInt32 = 255 := by decide
theorem cs_sipush_1000 : (Int16.ofInt 1000).toInt32 = 1000 := by decide
theorem cs_sipush_9999 : (Int16.ofInt 9999).toInt32 = 9999 := by decide
theorem cs_sipush_12345 : (Int16.ofInt 12345).toInt32 = 12345 := by decide
theorem tsw_0_2 {x : Int32} (h0 : ¬ x = 0) (h1 : ¬ x = 1) (h2 : ¬ x = 2) : x.toInt < 0 ∨ 2 < x.toInt := by
  have a0 : x.toInt ≠ 0 := fun e => h0 (Int32.toInt_inj.mp (e.trans (by decide)))
  have a1 : x.toInt ≠ 1 := fun e => h1 (Int32.toInt_inj.mp (e.trans (by decide)))
  have a2 : x.toInt ≠ 2 := fun e => h2 (Int32.toInt_inj.mp (e.trans (by decide)))
  omega
theorem tsw_0_6 {x : Int32} (h0 : ¬ x = 0) (h1 : ¬ x = 1) (h2 : ¬ x = 2) (h3 : ¬ x = 3) (h4 : ¬ x = 4) (h5 : ¬ x = 5) (h6 : ¬ x = 6) : x.toInt < 0 ∨ 6 < x.toInt := by
  have a0 : x.toInt ≠ 0 := fun e => h0 (Int32.toInt_inj.mp (e.trans (by decide)))
  have a1 : x.toInt ≠ 1 := fun e => h1 (Int32.toInt_inj.mp (e.trans (by decide)))
  have a2 : x.toInt ≠ 2 := fun e => h2 (Int32.toInt_inj.mp (e.trans (by decide)))
  have a3 : x.toInt ≠ 3 := fun e => h3 (Int32.toInt_inj.mp (e.trans (by decide)))
  have a4 : x.toInt ≠ 4 := fun e => h4 (Int32.toInt_inj.mp (e.trans (by decide)))
  have a5 : x.toInt ≠ 5 := fun e => h5 (Int32.toInt_inj.mp (e.trans (by decide)))
  have a6 : x.toInt ≠ 6 := fun e => h6 (Int32.toInt_inj.mp (e.trans (by decide)))
  omega
theorem tsw_0_7 {x : Int32} (h0 : ¬ x = 0) (h1 : ¬ x = 1) (h2 : ¬ x = 2) (h3 : ¬ x = 3) (h4 : ¬ x = 4) (h5 : ¬ x = 5) (h6 : ¬ x = 6) (h7 : ¬ x = 7) : x.toInt < 0 ∨ 7 < x.toInt := by
  have a0 : x.toInt ≠ 0 := fun e => h0 (Int32.toInt_inj.mp (e.trans (by decide)))
  have a1 : x.toInt ≠ 1 := fun e => h1 (Int32.toInt_inj.mp (e.trans (by decide)))
  have a2 : x.toInt ≠ 2 := fun e => h2 (Int32.toInt_inj.mp (e.trans (by decide)))
  have a3 : x.toInt ≠ 3 := fun e => h3 (Int32.toInt_inj.mp (e.trans (by decide)))
  have a4 : x.toInt ≠ 4 := fun e => h4 (Int32.toInt_inj.mp (e.trans (by decide)))
  have a5 : x.toInt ≠ 5 := fun e => h5 (Int32.toInt_inj.mp (e.trans (by decide)))
  have a6 : x.toInt ≠ 6 := fun e => h6 (Int32.toInt_inj.mp (e.trans (by decide)))
  have a7 : x.toInt ≠ 7 := fun e => h7 (Int32.toInt_inj.mp (e.trans (by decide)))
  omega
theorem tsw_0_11 {x : Int32} (h0 : ¬ x = 0) (h1 : ¬ x = 1) (h2 : ¬ x = 2) (h3 : ¬ x = 3) (h4 : ¬ x = 4) (h5 : ¬ x = 5) (h6 : ¬ x = 6) (h7 : ¬ x = 7) (h8 : ¬ x = 8) (h9 : ¬ x = 9) (h10 : ¬ x = 10) (h11 : ¬ x = 11) : x.toInt < 0 ∨ 11 < x.toInt := by
  have a0 : x.toInt ≠ 0 := fun e => h0 (Int32.toInt_inj.mp (e.trans (by decide)))
  have a1 : x.toInt ≠ 1 := fun e => h1 (Int32.toInt_inj.mp (e.trans (by decide)))
  have a2 : x.toInt ≠ 2 := fun e => h2 (Int32.toInt_inj.mp (e.trans (by decide)))
  have a3 : x.toInt ≠ 3 := fun e => h3 (Int32.toInt_inj.mp (e.trans (by decide)))
  have a4 : x.toInt ≠ 4 := fun e => h4 (Int32.toInt_inj.mp (e.trans (by decide)))
  have a5 : x.toInt ≠ 5 := fun e => h5 (Int32.toInt_inj.mp (e.trans (by decide)))
  have a6 : x.toInt ≠ 6 := fun e => h6 (Int32.toInt_inj.mp (e.trans (by decide)))
  have a7 : x.toInt ≠ 7 := fun e => h7 (Int32.toInt_inj.mp (e.trans (by decide)))
  have a8 : x.toInt ≠ 8 := fun e => h8 (Int32.toInt_inj.mp (e.trans (by decide)))
  have a9 : x.toInt ≠ 9 := fun e => h9 (Int32.toInt_inj.mp (e.trans (by decide)))
  have a10 : x.toInt ≠ 10 := fun e => h10 (Int32.toInt_inj.mp (e.trans (by decide)))
  have a11 : x.toInt ≠ 11 := fun e => h11 (Int32.toInt_inj.mp (e.trans (by decide)))
  omega
theorem tsw_0_39 {x : Int32} (h0 : ¬ x = 0) (h1 : ¬ x = 1) (h2 : ¬ x = 2) (h3 : ¬ x = 3) (h4 : ¬ x = 4) (h5 : ¬ x = 5) (h6 : ¬ x = 6) (h7 : ¬ x = 7) (h8 : ¬ x = 8) (h9 : ¬ x = 9) (h10 : ¬ x = 10) (h11 : ¬ x = 11) (h12 : ¬ x = 12) (h13 : ¬ x = 13) (h14 : ¬ x = 14) (h15 : ¬ x = 15) (h16 : ¬ x = 16) (h17 : ¬ x = 17) (h18 : ¬ x = 18) (h19 : ¬ x = 19) (h20 : ¬ x = 20) (h21 : ¬ x = 21) (h22 : ¬ x = 22) (h23 : ¬ x = 23) (h24 : ¬ x = 24) (h25 : ¬ x = 25) (h26 : ¬ x = 26) (h27 : ¬ x = 27) (h28 : ¬ x = 28) (h29 : ¬ x = 29) (h30 : ¬ x = 30) (h31 : ¬ x = 31) (h32 : ¬ x = 32) (h33 : ¬ x = 33) (h34 : ¬ x = 34) (h35 : ¬ x = 35) (h36 : ¬ x = 36) (h37 : ¬ x = 37) (h38 : ¬ x = 38) (h39 : ¬ x = 39) : x.toInt < 0 ∨ 39 < x.toInt := by
  have a0 : x.toInt ≠ 0 := fun e => h0 (Int32.toInt_inj.mp (e.trans (by decide)))
  have a1 : x.toInt ≠ 1 := fun e => h1 (Int32.toInt_inj.mp (e.trans (by decide)))
  have a2 : x.toInt ≠ 2 := fun e => h2 (Int32.toInt_inj.mp (e.trans (by decide)))
  have a3 : x.toInt ≠ 3 := fun e => h3 (Int32.toInt_inj.mp (e.trans (by decide)))
  have a4 : x.toInt ≠ 4 := fun e => h4 (Int32.toInt_inj.mp (e.trans (by decide)))
  have a5 : x.toInt ≠ 5 := fun e => h5 (Int32.toInt_inj.mp (e.trans (by decide)))
  have a6 : x.toInt ≠ 6 := fun e => h6 (Int32.toInt_inj.mp (e.trans (by decide)))
  have a7 : x.toInt ≠ 7 := fun e => h7 (Int32.toInt_inj.mp (e.trans (by decide)))
  have a8 : x.toInt ≠ 8 := fun e => h8 (Int32.toInt_inj.mp (e.trans (by decide)))
  have a9 : x.toInt ≠ 9 := fun e => h9 (Int32.toInt_inj.mp (e.trans (by decide)))
  have a10 : x.toInt ≠ 10 := fun e => h10 (Int32.toInt_inj.mp (e.trans (by decide)))
  have a11 : x.toInt ≠ 11 := fun e => h11 (Int32.toInt_inj.mp (e.trans (by decide)))
  have a12 : x.toInt ≠ 12 := fun e => h12 (Int32.toInt_inj.mp (e.trans (by decide)))
  have a13 : x.toInt ≠ 13 := fun e => h13 (Int32.toInt_inj.mp (e.trans (by decide)))
  have a14 : x.toInt ≠ 14 := fun e => h14 (Int32.toInt_inj.mp (e.trans (by decide)))
  have a15 : x.toInt ≠ 15 := fun e => h15 (Int32.toInt_inj.mp (e.trans (by decide)))
  have a16 : x.toInt ≠ 16 := fun e => h16 (Int32.toInt_inj.mp (e.trans (by decide)))
  have a17 : x.toInt ≠ 17 := fun e => h17 (Int32.toInt_inj.mp (e.trans (by decide)))
  have a18 : x.toInt ≠ 18 := fun e => h18 (Int32.toInt_inj.mp (e.trans (by decide)))
  have a19 : x.toInt ≠ 19 := fun e => h19 (Int32.toInt_inj.mp (e.trans (by decide)))
  have a20 : x.toInt ≠ 20 := fun e => h20 (Int32.toInt_inj.mp (e.trans (by decide)))
  have a21 : x.toInt ≠ 21 := fun e => h21 (Int32.toInt_inj.mp (e.trans (by decide)))
  have a22 : x.toInt ≠ 22 := fun e => h22 (Int32.toInt_inj.mp (e.trans (by decide)))
  have a23 : x.toInt ≠ 23 := fun e => h23 (Int32.toInt_inj.mp (e.trans (by decide)))
  have a24 : x.toInt ≠ 24 := fun e => h24 (Int32.toInt_inj.mp (e.trans (by decide)))
  have a25 : x.toInt ≠ 25 := fun e => h25 (Int32.toInt_inj.mp (e.trans (by decide)))
  have a26 : x.toInt ≠ 26 := fun e => h26 (Int32.toInt_inj.mp (e.trans (by decide)))
  have a27 : x.toInt ≠ 27 := fun e => h27 (Int32.toInt_inj.mp (e.trans (by decide)))
  have a28 : x.toInt ≠ 28 := fun e => h28 (Int32.toInt_inj.mp (e.trans (by decide)))
  have a29 : x.toInt ≠ 29 := fun e => h29 (Int32.toInt_inj.mp (e.trans (by decide)))
  have a30 : x.toInt ≠ 30 := fun e => h30 (Int32.toInt_inj.mp (e.trans (by decide)))
  have a31 : x.toInt ≠ 31 := fun e => h31 (Int32.toInt_inj.mp (e.trans (by decide)))
  have a32 : x.toInt ≠ 32 := fun e => h32 (Int32.toInt_inj.mp (e.trans (by decide)))
  have a33 : x.toInt ≠ 33 := fun e => h33 (Int32.toInt_inj.mp (e.trans (by decide)))
  have a34 : x.toInt ≠ 34 := fun e => h34 (Int32.toInt_inj.mp (e.trans (by decide)))
  have a35 : x.toInt ≠ 35 := fun e => h35 (Int32.toInt_inj.mp (e.trans (by decide)))
  have a36 : x.toInt ≠ 36 := fun e => h36 (Int32.toInt_inj.mp (e.trans (by decide)))
  have a37 : x.toInt ≠ 37 := fun e => h37 (Int32.toInt_inj.mp (e.trans (by decide)))
  have a38 : x.toInt ≠ 38 := fun e => h38 (Int32.toInt_inj.mp (e.trans (by decide)))
  have a39 : x.toInt ≠ 39 := fun e => h39 (Int32.toInt_inj.mp (e.trans (by decide)))
  omega
theorem tsw_1_6 {x : Int32} (h1 : ¬ x = 1) (h2 : ¬ x = 2) (h3 : ¬ x = 3) (h4 : ¬ x = 4) (h5 : ¬ x = 5) (h6 : ¬ x = 6) : x.toInt < 1 ∨ 6 < x.toInt := by
  have a1 : x.toInt ≠ 1 := fun e => h1 (Int32.toInt_inj.mp (e.trans (by decide)))
  have a2 : x.toInt ≠ 2 := fun e => h2 (Int32.toInt_inj.mp (e.trans (by decide)))
  have a3 : x.toInt ≠ 3 := fun e => h3 (Int32.toInt_inj.mp (e.trans (by decide)))
  have a4 : x.toInt ≠ 4 := fun e => h4 (Int32.toInt_inj.mp (e.trans (by decide)))
  have a5 : x.toInt ≠ 5 := fun e => h5 (Int32.toInt_inj.mp (e.trans (by decide)))
  have a6 : x.toInt ≠ 6 := fun e => h6 (Int32.toInt_inj.mp (e.trans (by decide)))
  omega
theorem tsw_2_6 {x : Int32} (h2 : ¬ x = 2) (h3 : ¬ x = 3) (h4 : ¬ x = 4) (h5 : ¬ x = 5) (h6 : ¬ x = 6) : x.toInt < 2 ∨ 6 < x.toInt := by
  have a2 : x.toInt ≠ 2 := fun e => h2 (Int32.toInt_inj.mp (e.trans (by decide)))
  have a3 : x.toInt ≠ 3 := fun e => h3 (Int32.toInt_inj.mp (e.trans (by decide)))
  have a4 : x.toInt ≠ 4 := fun e => h4 (Int32.toInt_inj.mp (e.trans (by decide)))
  have a5 : x.toInt ≠ 5 := fun e => h5 (Int32.toInt_inj.mp (e.trans (by decide)))
  have a6 : x.toInt ≠ 6 := fun e => h6 (Int32.toInt_inj.mp (e.trans (by decide)))
  omega
theorem tsw_6_8 {x : Int32} (h6 : ¬ x = 6) (h7 : ¬ x = 7) (h8 : ¬ x = 8) : x.toInt < 6 ∨ 8 < x.toInt := by
  have a6 : x.toInt ≠ 6 := fun e => h6 (Int32.toInt_inj.mp (e.trans (by decide)))
  have a7 : x.toInt ≠ 7 := fun e => h7 (Int32.toInt_inj.mp (e.trans (by decide)))
  have a8 : x.toInt ≠ 8 := fun e => h8 (Int32.toInt_inj.mp (e.trans (by decide)))
  omega
theorem tsw_6_9 {x : Int32} (h6 : ¬ x = 6) (h7 : ¬ x = 7) (h8 : ¬ x = 8) (h9 : ¬ x = 9) : x.toInt < 6 ∨ 9 < x.toInt := by
  have a6 : x.toInt ≠ 6 := fun e => h6 (Int32.toInt_inj.mp (e.trans (by decide)))
  have a7 : x.toInt ≠ 7 := fun e => h7 (Int32.toInt_inj.mp (e.trans (by decide)))
  have a8 : x.toInt ≠ 8 := fun e => h8 (Int32.toInt_inj.mp (e.trans (by decide)))
  have a9 : x.toInt ≠ 9 := fun e => h9 (Int32.toInt_inj.mp (e.trans (by decide)))
  omega
theorem lks_8_16 {x : Int32} (h8 : ¬ x = 8) (h16 : ¬ x = 16) : Op.lookupswitch.offset [(8, 27), (16, 30)] 33 x.toInt = 33 := by
  have a8 : x.toInt ≠ 8 := fun e => h8 (Int32.toInt_inj.mp (e.trans (by decide)))
  have a16 : x.toInt ≠ 16 := fun e => h16 (Int32.toInt_inj.mp (e.trans (by decide)))
  simp [Op.lookupswitch.offset, a8, Ne.symm a8, a16, Ne.symm a16]
/-! ===== numbers ===== -/
def fk_N : Nat := 4096
def fk_max (x y : Int32) : Int32 := if x < y then y else x
def fk_min (x y : Int32) : Int32 := if y < x then y else x
def fk_abs (x : Int32) : Int32 := if 0 ≤ x then x else 0 - x
def fk_t0 (j : Nat) : Int32 := ([2, 1, 5, 1, 2, 0, 5] : List Int32).getD j 0
def fk_t1 (j : Nat) : Int32 := ([5, 5, 3, 10, 10, 1, 3] : List Int32).getD j 0
def fk_t2 (j : Nat) : Int32 := ([-1, 0, 0, 1, 3, 0, 2] : List Int32).getD j 0
def fk_t3 (j : Nat) : Int32 := ([6, 99, 99, 99, 9999, 9999] : List Int32).getD j 0
def fk_Y {α : Type} (σ : fk_T) (a0 n0 : Nat) (sp : Int32) (a1 n1 : Nat) (dp n : Int32) (k : fk_T → Option α) : Option α := if sp < 0 ∨ dp < 0 ∨ n < 0 ∨ n0 < sp.toNatClampNeg + n.toNatClampNeg ∨ n1 < dp.toNatClampNeg + n.toNatClampNeg then none else k (fk_w σ a1 (va_cpy (σ.1 a0) (σ.1 a1) sp.toNatClampNeg dp.toNatClampNeg n.toNatClampNeg))
def hp_R (u : Nat) : Prop := u = 27 ∨ u = 28 ∨ u = 29 ∨ u = 30
theorem hp_ltr {u : Nat} (h : hp_R u) : u < 37 := by unfold hp_R at h; omega
theorem hp_cr {u : Nat} (h : hp_R u) (g : Nat → Int32) (v : Int64) : hp_c u g v = .inl (false, 135, g) := by rcases h with rfl | rfl | rfl | rfl <;> rfl
def hp_W (w : Nat) : Prop := 1010 ≤ w ∧ w < 1023
theorem aw_in {w : Cond} (i : Nat) (h : tables_1[i]? = some w) (hg : goodWord w = true) : w ∈ aw_tb := List.mem_filter.mpr ⟨List.mem_append_right _ (List.mem_of_getElem? h), hg⟩
theorem aw_inS {w : Cond} (i : Nat) (h : (k2_sels lw_privs)[i]? = some w) (hg : goodWord w = true) : w ∈ aw_tb := List.mem_filter.mpr ⟨List.mem_append_left _ (List.mem_of_getElem? h), hg⟩
/-! ===== Math, arraycopy ===== -/
theorem aw_w_max : (Jvm.Cond.static Lib.Math.max.name ∈ aw_tb ∧ Jvm.Cond.initialized "java/lang/Math" ∈ aw_tb) ∧ Jvm.Cond.code Lib.Math.max.name Lib.Math.max.code 2 (some .int) ∈ aw_tb := ⟨⟨aw_in 214 (by decide +kernel) rfl, aw_in 8 (by decide +kernel) rfl⟩, aw_in 215 (by decide +kernel) rfl⟩
theorem af_mmax {cx : aw_C} {cc : ByteArray} {own : String} {rm : Room} (K : aw_K cx cc own rm) {α : Type} {ρ : α → Option Value × aw_H} {pc : Nat} {lv : List (Option Value)} {st : List Value} {h : aw_H} {f : Option α} {idx : Nat} {x y : Int32} (n : Nat) (d : decode cc pc = .ok (.invokestatic idx, 3)) (hn : pc + 3 = n) (lk : Jvm.Cond.methodLink own idx Lib.Math.max.name ∈ aw_tb) (hf : Nat.ble 1 rm.frames = true) (hlo : Nat.ble 21 rm.locals = true) (hcat : Nat.ble (st.map fun v => v.category).sum 8 = true) (k : af cx ρ n lv (.int (fk_max x y) :: st) h f) : af cx ρ pc lv (.int y :: .int x :: st) h f := by
  obtain ⟨p, l, e, R, s, m, args, below, meth, c, Q, A, cells, slots, X, nL, Ad⟩ := cx
  subst hn
  intro q hq hr ad H locs ls h1 h2 h3 h4 h5
  obtain ⟨hx, hb, hml, hown, hts, hSX, hA, hlk, hR, hc0, hs0, hAd⟩ := K
  subst hR
  have hl2 := Nat.le_of_ble_eq_true hlo
  have hc2 := Nat.le_of_ble_eq_true hcat
  exact va_mmax hx hb (hml.trans h5.1.symm) hown (hts _ lk) (hts _ aw_w_max.1.1) (hts _ aw_w_max.1.2) (hts _ aw_w_max.2) (Nat.le_of_ble_eq_true hf) (by rw [aw_cats]; omega) hc0 hs0 d (k q hq hr ad H locs ls h1 h2 h3 h4 h5)
theorem aw_w_min : (Jvm.Cond.static Lib.Math.min.name ∈ aw_tb ∧ Jvm.Cond.initialized "java/lang/Math" ∈ aw_tb) ∧ Jvm.Cond.code Lib.Math.min.name Lib.Math.min.code 2 (some .int) ∈ aw_tb := ⟨⟨aw_in 291 (by decide +kernel) rfl, aw_in 8 (by decide +kernel) rfl⟩, aw_in 292 (by decide +kernel) rfl⟩
theorem af_mmin {cx : aw_C} {cc : ByteArray} {own : String} {rm : Room} (K : aw_K cx cc own rm) {α : Type} {ρ : α → Option Value × aw_H} {pc : Nat} {lv : List (Option Value)} {st : List Value} {h : aw_H} {f : Option α} {idx : Nat} {x y : Int32} (n : Nat) (d : decode cc pc = .ok (.invokestatic idx, 3)) (hn : pc + 3 = n) (lk : Jvm.Cond.methodLink own idx Lib.Math.min.name ∈ aw_tb) (hf : Nat.ble 1 rm.frames = true) (hlo : Nat.ble 21 rm.locals = true) (hcat : Nat.ble (st.map fun v => v.category).sum 8 = true) (k : af cx ρ n lv (.int (fk_min x y) :: st) h f) : af cx ρ pc lv (.int y :: .int x :: st) h f := by
  obtain ⟨p, l, e, R, s, m, args, below, meth, c, Q, A, cells, slots, X, nL, Ad⟩ := cx
  subst hn
  intro q hq hr ad H locs ls h1 h2 h3 h4 h5
  obtain ⟨hx, hb, hml, hown, hts, hSX, hA, hlk, hR, hc0, hs0, hAd⟩ := K
  subst hR
  have hl2 := Nat.le_of_ble_eq_true hlo
  have hc2 := Nat.le_of_ble_eq_true hcat
  exact va_mmin hx hb (hml.trans h5.1.symm) hown (hts _ lk) (hts _ aw_w_min.1.1) (hts _ aw_w_min.1.2) (hts _ aw_w_min.2) (Nat.le_of_ble_eq_true hf) (by rw [aw_cats]; omega) hc0 hs0 d (k q hq hr ad H locs ls h1 h2 h3 h4 h5)
theorem aw_w_abs : (Jvm.Cond.static Lib.Math.abs.name ∈ aw_tb ∧ Jvm.Cond.initialized "java/lang/Math" ∈ aw_tb) ∧ Jvm.Cond.code Lib.Math.abs.name Lib.Math.abs.code 1 (some .int) ∈ aw_tb := ⟨⟨aw_in 267 (by decide +kernel) rfl, aw_in 8 (by decide +kernel) rfl⟩, aw_in 268 (by decide +kernel) rfl⟩
theorem af_mabs {cx : aw_C} {cc : ByteArray} {own : String} {rm : Room} (K : aw_K cx cc own rm) {α : Type} {ρ : α → Option Value × aw_H} {pc : Nat} {lv : List (Option Value)} {st : List Value} {h : aw_H} {f : Option α} {idx : Nat} {x : Int32} (n : Nat) (d : decode cc pc = .ok (.invokestatic idx, 3)) (hn : pc + 3 = n) (lk : Jvm.Cond.methodLink own idx Lib.Math.abs.name ∈ aw_tb) (hf : Nat.ble 1 rm.frames = true) (hlo : Nat.ble 21 rm.locals = true) (hcat : Nat.ble (st.map fun v => v.category).sum 8 = true) (k : af cx ρ n lv (.int (fk_abs x) :: st) h f) : af cx ρ pc lv (.int x :: st) h f := by
  obtain ⟨p, l, e, R, s, m, args, below, meth, c, Q, A, cells, slots, X, nL, Ad⟩ := cx
  subst hn
  intro q hq hr ad H locs ls h1 h2 h3 h4 h5
  obtain ⟨hx, hb, hml, hown, hts, hSX, hA, hlk, hR, hc0, hs0, hAd⟩ := K
  subst hR
  have hl2 := Nat.le_of_ble_eq_true hlo
  have hc2 := Nat.le_of_ble_eq_true hcat
  exact va_mabs hx hb (hml.trans h5.1.symm) hown (hts _ lk) (hts _ aw_w_abs.1.1) (hts _ aw_w_abs.1.2) (hts _ aw_w_abs.2) (Nat.le_of_ble_eq_true hf) (by rw [aw_cats]; omega) hc0 hs0 d (k q hq hr ad H locs ls h1 h2 h3 h4 h5)
theorem aw_w_cp : Jvm.Cond.native arraycopyName ∈ aw_tb ∧ Jvm.Cond.static arraycopyName ∈ aw_tb ∧ Jvm.Cond.initialized "java/lang/System" ∈ aw_tb := ⟨aw_in 334 (by decide +kernel) rfl, aw_in 333 (by decide +kernel) rfl, aw_in 9 (by decide +kernel) rfl⟩
theorem af_copy {cx : aw_C} {cc : ByteArray} {own : String} {rm : Room} (K : aw_K cx cc own rm) {α : Type} {ρ : α → Option Value × aw_H} {pc : Nat} {lv : List (Option Value)} {st : List Value} {σ : fk_T} {kf : fk_T → Option α} {idx a0 a1 n0 n1 : Nat} {sp dp ct : Int32} (n : Nat) (d : decode cc pc = .ok (.invokestatic idx, 3)) (hn : pc + 3 = n) (lk : Jvm.Cond.methodLink own idx arraycopyName ∈ aw_tb) (hf : Nat.ble 1 rm.frames = true) (hlo : Nat.ble (8 + (nativeFrameWords "java/lang/System" "arraycopy" 5 + 11)) rm.locals = true) (hcat : Nat.ble (st.map fun v => v.category).sum 8 = true) (ha0 : a0 < 37) (hc0 : hp_c a0 (σ.1 a0) σ.2 = .inl (false, n0, σ.1 a0)) (ha1 : a1 < 37) (hc1 : ∀ g v, hp_c a1 g v = .inl (false, n1, g)) (k : ∀ σ', af cx ρ n lv st (hp σ') (kf σ')) : af cx ρ pc lv (.int ct :: .int dp :: .ref a1 :: .int sp :: .ref a0 :: st) (hp σ) (fk_Y σ a0 n0 sp a1 n1 dp ct kf) := by
  obtain ⟨p, l, e, R, s, m, args, below, meth, c, Q, A, cells, slots, X, nL, Ad⟩ := cx
  subst hn
  intro q hq hr ad H locs ls h1 h2 h3 h4 h5
  obtain ⟨hx, hb, hml, hown, hts, hSX, hA, hlk, hR, hcc, hss, hAd⟩ := K
  subst hR
  have hl2 := Nat.le_of_ble_eq_true hlo
  have hc2 := Nat.le_of_ble_eq_true hcat
  unfold fk_Y at hq
  by_cases hi : sp < 0 ∨ dp < 0 ∨ ct < 0 ∨ n0 < sp.toNatClampNeg + ct.toNatClampNeg ∨ n1 < dp.toNatClampNeg + ct.toNatClampNeg
  · rw [if_pos hi] at hq; cases hq
  · rw [if_neg hi] at hq
    have i1 : ¬ sp < 0 := fun z => hi (Or.inl z)
    have i2 : ¬ dp < 0 := fun z => hi (Or.inr (Or.inl z))
    have i3 : ¬ ct < 0 := fun z => hi (Or.inr (Or.inr (Or.inl z)))
    have i4 : sp.toNatClampNeg + ct.toNatClampNeg ≤ n0 := Nat.not_lt.mp fun z => hi (Or.inr (Or.inr (Or.inr (Or.inl z))))
    have i5 : dp.toNatClampNeg + ct.toNatClampNeg ≤ n1 := Nat.not_lt.mp fun z => hi (Or.inr (Or.inr (Or.inr (Or.inr z))))
    refine va_copyi (f := σ.1 a0) (g := σ.1 a1) (ty := .int) hx hb (hml.trans h5.1.symm) hown (hts _ lk) (hts _ aw_w_cp.1) (hts _ aw_w_cp.2.1) (hts _ aw_w_cp.2.2) hSX.1 h2 h3 h4 a0 a1 0 0 (aw_w_at (e := .inl (false, n0, σ.1 a0)) (by rw [hp_at _ ha0, hc0])) (aw_w_at (e := .inl (false, n1, σ.1 a1)) (by rw [hp_at _ ha1, hc1])) rfl rfl rfl i1 i2 i3 i4 i5 (fun _ _ => rfl) (Nat.le_of_ble_eq_true hf) (by rw [aw_cats]; omega) d (fun H1 locs1 g1 g2 g3 => k _ q hq hr ad H1 locs1 ls h1 ?_ ?_ g3 h5)
    · rw [← hp_set _ ha1, hc1, ← aw_w_set]; exact g1
    · rw [← hp_set _ ha1, hc1, ← aw_w_set]; exact g2
theorem af_iincB {cx : aw_C} {cc : ByteArray} {own : String} {rm : Room} (K : aw_K cx cc own rm) {α : Type} {ρ : α → Option Value × aw_H} {pc : Nat} {lv : List (Option Value)} {st : List Value} {h : aw_H} {kf : Int32 → Option α} {i : Nat} {z : Int} {x z' : Int32} (n : Nat) (lv' : Int32 → List (Option Value)) (d : decode cc pc = .ok (.iinc i z, 3)) (hn : pc + 3 = n) (hi : i < aw_nL cx) (hl : lv[i]? = some (some (.int x))) (hz : Int32.ofInt z = z') (e : ∀ y, aw_lw lv i (.int y) = lv' y) (k : ∀ y, af cx ρ n (lv' y) st h (kf y)) : af cx ρ pc lv st h (fk_B (x + z') kf) := by
  exact af_iinc K n (lv' (x + z')) d hn hi hl (by rw [hz]) (e _) (k _)
/-! ===== ends and calls by the kind of the answer ===== -/
theorem af_retv {cx : aw_C} {cc : ByteArray} {own : String} {rm : Room} (K : aw_K cx cc own rm) {pc : Nat} {lv : List (Option Value)} {σ : fk_T}  (d : decode cc pc = .ok (.return_, 1)) : af cx ρv pc lv [] (hp σ) (some σ) := af_ret (r := none) K d rfl rfl
theorem af_reti {cx : aw_C} {cc : ByteArray} {own : String} {rm : Room} (K : aw_K cx cc own rm) {pc : Nat} {lv : List (Option Value)} {σ : fk_T} {x : Int32} (d : decode cc pc = .ok (.ireturn, 1)) : af cx ρi pc lv [.int x] (hp σ) (some (x, σ)) := af_ret (r := some (.int x)) K d rfl rfl
theorem af_retl {cx : aw_C} {cc : ByteArray} {own : String} {rm : Room} (K : aw_K cx cc own rm) {pc : Nat} {lv : List (Option Value)} {σ : fk_T} {x : Int64} (d : decode cc pc = .ok (.lreturn, 1)) : af cx ρl pc lv [.long x] (hp σ) (some (x, σ)) := af_ret (r := some (.long x)) K d rfl rfl
theorem af_retr {cx : aw_C} {cc : ByteArray} {own : String} {rm : Room} (K : aw_K cx cc own rm) {pc : Nat} {lv : List (Option Value)} {σ : fk_T} {x : Nat} (d : decode cc pc = .ok (.areturn, 1)) : af cx ρr pc lv [.ref x] (hp σ) (some (x, σ)) := af_ret (r := some (.ref x)) K d rfl rfl
theorem af_retz {cx : aw_C} {cc : ByteArray} {own : String} {rm : Room} (K : aw_K cx cc own rm) {pc : Nat} {lv : List (Option Value)} {σ : fk_T} {x : Int32} {b : Bool} (hb : fk_b b = x) (d : decode cc pc = .ok (.ireturn, 1)) : af cx ρz pc lv [.int x] (hp σ) (some (b, σ)) := af_ret (r := some (.int x)) K d (by rw [← hb]) rfl
theorem af_callV_v {cx : aw_C} {cc : ByteArray} {own : String} {rm : Room} (K : aw_K cx cc own rm) {α : Type} {ρ : α → Option Value × aw_H} {pc : Nat} {lv : List (Option Value)} {st : List Value} {h : aw_H} {idx np : Nat} {f : Option (fk_T)} {kf : fk_T → Option α} {M : aw_M} {vs : List Value} {b ci N : Nat} {T : u_T} {fs : List Value} (V : aw_mV M np) (lk : Jvm.Cond.methodLink own idx M.1 ∈ aw_tb) (hb2 : h[b]? = some (.inr (ci, fs))) (hcl : aw_cl[ci]? = some (M.1.cls, T, N)) (n : Nat) (d : decode cc pc = .ok (.invokevirtual idx, 3)) (hn : pc + 3 = n) (hl : vs.length = np) (hcat : Nat.ble (st.map fun v => v.category).sum 8 = true) (hfit : aw_fit M rm = true) (G : af_G (aw_xX cx) (aw_xl cx) M (.ref b :: vs) h ρv f) {stk : List Value} (hs : stk = vs.reverse ++ .ref b :: st) (k : ∀ q1, af cx ρ n lv (st) (hp q1) (kf q1)) : af cx ρ pc lv stk h (f.bind kf) := af_callV K V lk hb2 hcl n d hn hl hcat hfit G hs k
theorem af_callV_i {cx : aw_C} {cc : ByteArray} {own : String} {rm : Room} (K : aw_K cx cc own rm) {α : Type} {ρ : α → Option Value × aw_H} {pc : Nat} {lv : List (Option Value)} {st : List Value} {h : aw_H} {idx np : Nat} {f : Option (Int32 × fk_T)} {kf : Int32 × fk_T → Option α} {M : aw_M} {vs : List Value} {b ci N : Nat} {T : u_T} {fs : List Value} (V : aw_mV M np) (lk : Jvm.Cond.methodLink own idx M.1 ∈ aw_tb) (hb2 : h[b]? = some (.inr (ci, fs))) (hcl : aw_cl[ci]? = some (M.1.cls, T, N)) (n : Nat) (d : decode cc pc = .ok (.invokevirtual idx, 3)) (hn : pc + 3 = n) (hl : vs.length = np) (hcat : Nat.ble (st.map fun v => v.category).sum 8 = true) (hfit : aw_fit M rm = true) (G : af_G (aw_xX cx) (aw_xl cx) M (.ref b :: vs) h ρi f) {stk : List Value} (hs : stk = vs.reverse ++ .ref b :: st) (k : ∀ q1, af cx ρ n lv (.int q1.1 :: st) (hp q1.2) (kf q1)) : af cx ρ pc lv stk h (f.bind kf) := af_callV K V lk hb2 hcl n d hn hl hcat hfit G hs k
theorem af_callV_z {cx : aw_C} {cc : ByteArray} {own : String} {rm : Room} (K : aw_K cx cc own rm) {α : Type} {ρ : α → Option Value × aw_H} {pc : Nat} {lv : List (Option Value)} {st : List Value} {h : aw_H} {idx np : Nat} {f : Option (Bool × fk_T)} {kf : Bool × fk_T → Option α} {M : aw_M} {vs : List Value} {b ci N : Nat} {T : u_T} {fs : List Value} (V : aw_mV M np) (lk : Jvm.Cond.methodLink own idx M.1 ∈ aw_tb) (hb2 : h[b]? = some (.inr (ci, fs))) (hcl : aw_cl[ci]? = some (M.1.cls, T, N)) (n : Nat) (d : decode cc pc = .ok (.invokevirtual idx, 3)) (hn : pc + 3 = n) (hl : vs.length = np) (hcat : Nat.ble (st.map fun v => v.category).sum 8 = true) (hfit : aw_fit M rm = true) (G : af_G (aw_xX cx) (aw_xl cx) M (.ref b :: vs) h ρz f) {stk : List Value} (hs : stk = vs.reverse ++ .ref b :: st) (k : ∀ q1, af cx ρ n lv (.int (fk_b q1.1) :: st) (hp q1.2) (kf q1)) : af cx ρ pc lv stk h (f.bind kf) := af_callV K V lk hb2 hcl n d hn hl hcat hfit G hs k
theorem af_callV_l {cx : aw_C} {cc : ByteArray} {own : String} {rm : Room} (K : aw_K cx cc own rm) {α : Type} {ρ : α → Option Value × aw_H} {pc : Nat} {lv : List (Option Value)} {st : List Value} {h : aw_H} {idx np : Nat} {f : Option (Int64 × fk_T)} {kf : Int64 × fk_T → Option α} {M : aw_M} {vs : List Value} {b ci N : Nat} {T : u_T} {fs : List Value} (V : aw_mV M np) (lk : Jvm.Cond.methodLink own idx M.1 ∈ aw_tb) (hb2 : h[b]? = some (.inr (ci, fs))) (hcl : aw_cl[ci]? = some (M.1.cls, T, N)) (n : Nat) (d : decode cc pc = .ok (.invokevirtual idx, 3)) (hn : pc + 3 = n) (hl : vs.length = np) (hcat : Nat.ble (st.map fun v => v.category).sum 8 = true) (hfit : aw_fit M rm = true) (G : af_G (aw_xX cx) (aw_xl cx) M (.ref b :: vs) h ρl f) {stk : List Value} (hs : stk = vs.reverse ++ .ref b :: st) (k : ∀ q1, af cx ρ n lv (.long q1.1 :: st) (hp q1.2) (kf q1)) : af cx ρ pc lv stk h (f.bind kf) := af_callV K V lk hb2 hcl n d hn hl hcat hfit G hs k
theorem af_callV_r {cx : aw_C} {cc : ByteArray} {own : String} {rm : Room} (K : aw_K cx cc own rm) {α : Type} {ρ : α → Option Value × aw_H} {pc : Nat} {lv : List (Option Value)} {st : List Value} {h : aw_H} {idx np : Nat} {f : Option (Nat × fk_T)} {kf : Nat × fk_T → Option α} {M : aw_M} {vs : List Value} {b ci N : Nat} {T : u_T} {fs : List Value} (V : aw_mV M np) (lk : Jvm.Cond.methodLink own idx M.1 ∈ aw_tb) (hb2 : h[b]? = some (.inr (ci, fs))) (hcl : aw_cl[ci]? = some (M.1.cls, T, N)) (n : Nat) (d : decode cc pc = .ok (.invokevirtual idx, 3)) (hn : pc + 3 = n) (hl : vs.length = np) (hcat : Nat.ble (st.map fun v => v.category).sum 8 = true) (hfit : aw_fit M rm = true) (G : af_G (aw_xX cx) (aw_xl cx) M (.ref b :: vs) h ρr f) {stk : List Value} (hs : stk = vs.reverse ++ .ref b :: st) (k : ∀ q1, af cx ρ n lv (.ref q1.1 :: st) (hp q1.2) (kf q1)) : af cx ρ pc lv stk h (f.bind kf) := af_callV K V lk hb2 hcl n d hn hl hcat hfit G hs k
theorem af_callS_v {cx : aw_C} {cc : ByteArray} {own : String} {rm : Room} (K : aw_K cx cc own rm) {α : Type} {ρ : α → Option Value × aw_H} {pc : Nat} {lv : List (Option Value)} {st : List Value} {h : aw_H} {idx np : Nat} {f : Option (fk_T)} {kf : fk_T → Option α} {M : aw_M} {vs : List Value} (V : aw_mS M np) (lk : Jvm.Cond.methodLink own idx M.1 ∈ aw_tb) (n : Nat) (d : decode cc pc = .ok (.invokestatic idx, 3)) (hn : pc + 3 = n) (hl : vs.length = np) (hcat : Nat.ble (st.map fun v => v.category).sum 8 = true) (hfit : aw_fit M rm = true) (G : af_G (aw_xX cx) (aw_xl cx) M (vs) h ρv f) {stk : List Value} (hs : stk = vs.reverse ++ st) (k : ∀ q1, af cx ρ n lv (st) (hp q1) (kf q1)) : af cx ρ pc lv stk h (f.bind kf) := af_callS K V lk n d hn hl hcat hfit G hs k
theorem af_callS_i {cx : aw_C} {cc : ByteArray} {own : String} {rm : Room} (K : aw_K cx cc own rm) {α : Type} {ρ : α → Option Value × aw_H} {pc : Nat} {lv : List (Option Value)} {st : List Value} {h : aw_H} {idx np : Nat} {f : Option (Int32 × fk_T)} {kf : Int32 × fk_T → Option α} {M : aw_M} {vs : List Value} (V : aw_mS M np) (lk : Jvm.Cond.methodLink own idx M.1 ∈ aw_tb) (n : Nat) (d : decode cc pc = .ok (.invokestatic idx, 3)) (hn : pc + 3 = n) (hl : vs.length = np) (hcat : Nat.ble (st.map fun v => v.category).sum 8 = true) (hfit : aw_fit M rm = true) (G : af_G (aw_xX cx) (aw_xl cx) M (vs) h ρi f) {stk : List Value} (hs : stk = vs.reverse ++ st) (k : ∀ q1, af cx ρ n lv (.int q1.1 :: st) (hp q1.2) (kf q1)) : af cx ρ pc lv stk h (f.bind kf) := af_callS K V lk n d hn hl hcat hfit G hs k
theorem af_callS_z {cx : aw_C} {cc : ByteArray} {own : String} {rm : Room} (K : aw_K cx cc own rm) {α : Type} {ρ : α → Option Value × aw_H} {pc : Nat} {lv : List (Option Value)} {st : List Value} {h : aw_H} {idx np : Nat} {f : Option (Bool × fk_T)} {kf : Bool × fk_T → Option α} {M : aw_M} {vs : List Value} (V : aw_mS M np) (lk : Jvm.Cond.methodLink own idx M.1 ∈ aw_tb) (n : Nat) (d : decode cc pc = .ok (.invokestatic idx, 3)) (hn : pc + 3 = n) (hl : vs.length = np) (hcat : Nat.ble (st.map fun v => v.category).sum 8 = true) (hfit : aw_fit M rm = true) (G : af_G (aw_xX cx) (aw_xl cx) M (vs) h ρz f) {stk : List Value} (hs : stk = vs.reverse ++ st) (k : ∀ q1, af cx ρ n lv (.int (fk_b q1.1) :: st) (hp q1.2) (kf q1)) : af cx ρ pc lv stk h (f.bind kf) := af_callS K V lk n d hn hl hcat hfit G hs k
theorem af_callS_l {cx : aw_C} {cc : ByteArray} {own : String} {rm : Room} (K : aw_K cx cc own rm) {α : Type} {ρ : α → Option Value × aw_H} {pc : Nat} {lv : List (Option Value)} {st : List Value} {h : aw_H} {idx np : Nat} {f : Option (Int64 × fk_T)} {kf : Int64 × fk_T → Option α} {M : aw_M} {vs : List Value} (V : aw_mS M np) (lk : Jvm.Cond.methodLink own idx M.1 ∈ aw_tb) (n : Nat) (d : decode cc pc = .ok (.invokestatic idx, 3)) (hn : pc + 3 = n) (hl : vs.length = np) (hcat : Nat.ble (st.map fun v => v.category).sum 8 = true) (hfit : aw_fit M rm = true) (G : af_G (aw_xX cx) (aw_xl cx) M (vs) h ρl f) {stk : List Value} (hs : stk = vs.reverse ++ st) (k : ∀ q1, af cx ρ n lv (.long q1.1 :: st) (hp q1.2) (kf q1)) : af cx ρ pc lv stk h (f.bind kf) := af_callS K V lk n d hn hl hcat hfit G hs k
theorem af_callS_r {cx : aw_C} {cc : ByteArray} {own : String} {rm : Room} (K : aw_K cx cc own rm) {α : Type} {ρ : α → Option Value × aw_H} {pc : Nat} {lv : List (Option Value)} {st : List Value} {h : aw_H} {idx np : Nat} {f : Option (Nat × fk_T)} {kf : Nat × fk_T → Option α} {M : aw_M} {vs : List Value} (V : aw_mS M np) (lk : Jvm.Cond.methodLink own idx M.1 ∈ aw_tb) (n : Nat) (d : decode cc pc = .ok (.invokestatic idx, 3)) (hn : pc + 3 = n) (hl : vs.length = np) (hcat : Nat.ble (st.map fun v => v.category).sum 8 = true) (hfit : aw_fit M rm = true) (G : af_G (aw_xX cx) (aw_xl cx) M (vs) h ρr f) {stk : List Value} (hs : stk = vs.reverse ++ st) (k : ∀ q1, af cx ρ n lv (.ref q1.1 :: st) (hp q1.2) (kf q1)) : af cx ρ pc lv stk h (f.bind kf) := af_callS K V lk n d hn hl hcat hfit G hs k
theorem af_callN_v {cx : aw_C} {cc : ByteArray} {own : String} {rm : Room} (K : aw_K cx cc own rm) {α : Type} {ρ : α → Option Value × aw_H} {pc : Nat} {lv : List (Option Value)} {st : List Value} {h : aw_H} {idx np : Nat} {f : Option (fk_T)} {kf : fk_T → Option α} {M : aw_M} {vs : List Value} {host : String} (V : aw_mS M np) (hnw : ∀ {X : aw_X} {A : Nat → Prop} {U : State}, aw_SX X A U → va_Nw (.methodLinkNest own idx M.1 host) U) (n : Nat) (d : decode cc pc = .ok (.invokestatic idx, 3)) (hn : pc + 3 = n) (hl : vs.length = np) (hcat : Nat.ble (st.map fun v => v.category).sum 8 = true) (hfit : aw_fit M rm = true) (G : af_G (aw_xX cx) (aw_xl cx) M (vs) h ρv f) {stk : List Value} (hs : stk = vs.reverse ++ st) (k : ∀ q1, af cx ρ n lv (st) (hp q1) (kf q1)) : af cx ρ pc lv stk h (f.bind kf) := af_callN K V hnw n d hn hl hcat hfit G hs k
theorem af_callN_i {cx : aw_C} {cc : ByteArray} {own : String} {rm : Room} (K : aw_K cx cc own rm) {α : Type} {ρ : α → Option Value × aw_H} {pc : Nat} {lv : List (Option Value)} {st : List Value} {h : aw_H} {idx np : Nat} {f : Option (Int32 × fk_T)} {kf : Int32 × fk_T → Option α} {M : aw_M} {vs : List Value} {host : String} (V : aw_mS M np) (hnw : ∀ {X : aw_X} {A : Nat → Prop} {U : State}, aw_SX X A U → va_Nw (.methodLinkNest own idx M.1 host) U) (n : Nat) (d : decode cc pc = .ok (.invokestatic idx, 3)) (hn : pc + 3 = n) (hl : vs.length = np) (hcat : Nat.ble (st.map fun v => v.category).sum 8 = true) (hfit : aw_fit M rm = true) (G : af_G (aw_xX cx) (aw_xl cx) M (vs) h ρi f) {stk : List Value} (hs : stk = vs.reverse ++ st) (k : ∀ q1, af cx ρ n lv (.int q1.1 :: st) (hp q1.2) (kf q1)) : af cx ρ pc lv stk h (f.bind kf) := af_callN K V hnw n d hn hl hcat hfit G hs k
theorem af_callN_z {cx : aw_C} {cc : ByteArray} {own : String} {rm : Room} (K : aw_K cx cc own rm) {α : Type} {ρ : α → Option Value × aw_H} {pc : Nat} {lv : List (Option Value)} {st : List Value} {h : aw_H} {idx np : Nat} {f : Option (Bool × fk_T)} {kf : Bool × fk_T → Option α} {M : aw_M} {vs : List Value} {host : String} (V : aw_mS M np) (hnw : ∀ {X : aw_X} {A : Nat → Prop} {U : State}, aw_SX X A U → va_Nw (.methodLinkNest own idx M.1 host) U) (n : Nat) (d : decode cc pc = .ok (.invokestatic idx, 3)) (hn : pc + 3 = n) (hl : vs.length = np) (hcat : Nat.ble (st.map fun v => v.category).sum 8 = true) (hfit : aw_fit M rm = true) (G : af_G (aw_xX cx) (aw_xl cx) M (vs) h ρz f) {stk : List Value} (hs : stk = vs.reverse ++ st) (k : ∀ q1, af cx ρ n lv (.int (fk_b q1.1) :: st) (hp q1.2) (kf q1)) : af cx ρ pc lv stk h (f.bind kf) := af_callN K V hnw n d hn hl hcat hfit G hs k
theorem af_callN_l {cx : aw_C} {cc : ByteArray} {own : String} {rm : Room} (K : aw_K cx cc own rm) {α : Type} {ρ : α → Option Value × aw_H} {pc : Nat} {lv : List (Option Value)} {st : List Value} {h : aw_H} {idx np : Nat} {f : Option (Int64 × fk_T)} {kf : Int64 × fk_T → Option α} {M : aw_M} {vs : List Value} {host : String} (V : aw_mS M np) (hnw : ∀ {X : aw_X} {A : Nat → Prop} {U : State}, aw_SX X A U → va_Nw (.methodLinkNest own idx M.1 host) U) (n : Nat) (d : decode cc pc = .ok (.invokestatic idx, 3)) (hn : pc + 3 = n) (hl : vs.length = np) (hcat : Nat.ble (st.map fun v => v.category).sum 8 = true) (hfit : aw_fit M rm = true) (G : af_G (aw_xX cx) (aw_xl cx) M (vs) h ρl f) {stk : List Value} (hs : stk = vs.reverse ++ st) (k : ∀ q1, af cx ρ n lv (.long q1.1 :: st) (hp q1.2) (kf q1)) : af cx ρ pc lv stk h (f.bind kf) := af_callN K V hnw n d hn hl hcat hfit G hs k
theorem af_callN_r {cx : aw_C} {cc : ByteArray} {own : String} {rm : Room} (K : aw_K cx cc own rm) {α : Type} {ρ : α → Option Value × aw_H} {pc : Nat} {lv : List (Option Value)} {st : List Value} {h : aw_H} {idx np : Nat} {f : Option (Nat × fk_T)} {kf : Nat × fk_T → Option α} {M : aw_M} {vs : List Value} {host : String} (V : aw_mS M np) (hnw : ∀ {X : aw_X} {A : Nat → Prop} {U : State}, aw_SX X A U → va_Nw (.methodLinkNest own idx M.1 host) U) (n : Nat) (d : decode cc pc = .ok (.invokestatic idx, 3)) (hn : pc + 3 = n) (hl : vs.length = np) (hcat : Nat.ble (st.map fun v => v.category).sum 8 = true) (hfit : aw_fit M rm = true) (G : af_G (aw_xX cx) (aw_xl cx) M (vs) h ρr f) {stk : List Value} (hs : stk = vs.reverse ++ st) (k : ∀ q1, af cx ρ n lv (.ref q1.1 :: st) (hp q1.2) (kf q1)) : af cx ρ pc lv stk h (f.bind kf) := af_callN K V hnw n d hn hl hcat hfit G hs k
