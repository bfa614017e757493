/-! ===== feed ===== -/
def byV (x : Int32) (l : Nat) : Int32 := ((x.toUInt32 >>> ((8 * nI l).toUInt32 &&& Int32.toUInt32 31)).toInt32) &&& 255
theorem and255 (y : Int32) : 0 ≤ (y &&& 255).toInt ∧ (y &&& 255).toInt ≤ 255 := by
  have h : (y &&& 255).toBitVec = y.toBitVec &&& 255#32 := rfl
  have h2 : (y &&& 255).toBitVec.toNat ≤ 255 := by
    rw [h, BitVec.toNat_and]
    exact Nat.and_le_right
  have h3 : (y &&& 255).toInt = ((y &&& 255).toBitVec.toNat : Int) := by
    rw [← Int32.toInt_toBitVec, BitVec.toInt_eq_toNat_of_lt]
    omega
  rw [h3]
  omega
theorem by_eq (x : Int32) {l : Nat} (hl : l < 4) : ((x >>> ((8 * nI l) &&& 31)).toInt8.toInt32).toInt8.toInt32 = (byV x l).toInt8.toInt32 := by
  have e : ∀ y : Int32, y.toInt8.toInt32.toInt8 = y.toInt8 := fun y => by rw [Int8.toInt8_toInt32]
  rw [e]
  congr 1
  unfold byV
  apply Int8.toBitVec_inj.mp
  rcases (show l = 0 ∨ l = 1 ∨ l = 2 ∨ l = 3 by omega) with rfl | rfl | rfl | rfl
  · show BitVec.signExtend 8 _ = BitVec.signExtend 8 _
    bv_decide
  · sorry
  · sorry
  · sorry

