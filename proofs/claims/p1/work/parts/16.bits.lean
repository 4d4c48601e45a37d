theorem bm_255 (i : Nat) : (255#32).getLsbD i = decide (i < 8) := by
  by_cases h : i < 8
  · have : i = 0 ∨ i = 1 ∨ i = 2 ∨ i = 3 ∨ i = 4 ∨ i = 5 ∨ i = 6 ∨ i = 7 := by omega
    rcases this with rfl | rfl | rfl | rfl | rfl | rfl | rfl | rfl <;> rfl
  · rw [decide_eq_false h]
    show Nat.testBit (BitVec.toNat 255#32) i = false
    exact Nat.testBit_lt_two_pow (Nat.lt_of_lt_of_le (show BitVec.toNat 255#32 < 2 ^ 8 by decide) (Nat.pow_le_pow_right (by decide) (by omega)))
theorem bm_core (x : BitVec 64) (k : Nat) (hk : k ≤ 56) : (x.sshiftRight k).signExtend 32 &&& 255#32 = (x >>> k).signExtend 32 &&& 255#32 := by
  apply BitVec.eq_of_getLsbD_eq
  intro i hi
  rw [BitVec.getLsbD_and, BitVec.getLsbD_and, bm_255]
  by_cases h : i < 8
  · rw [decide_eq_true h, Bool.and_true, Bool.and_true, BitVec.getLsbD_signExtend, BitVec.getLsbD_signExtend, BitVec.getLsbD_sshiftRight, BitVec.getLsbD_ushiftRight]
    have h1 : i < 64 := by omega
    have h2 : k + i < 64 := by omega
    have h3 : ¬ 64 ≤ i := by omega
    simp [hi, h1, h2, h3]
  · rw [decide_eq_false h, Bool.and_false, Bool.and_false]
theorem bm_gen (v : Int64) (a : Int64) (b : UInt64) (k : Nat) (hk : k ≤ 56) (ha : (a.toBitVec.smod 64).toNat = k) (hb : (b.toBitVec % 64#64).toNat = k) : (v >>> a).toInt32 &&& 255 = ((v.toUInt64 >>> b).toInt64).toInt32 &&& 255 := by
  apply Int32.toBitVec_inj.mp
  have h1 : ((v >>> a).toInt32 &&& 255).toBitVec = (v.toBitVec.sshiftRight (a.toBitVec.smod 64).toNat).signExtend 32 &&& 255#32 := rfl
  have h2 : (((v.toUInt64 >>> b).toInt64).toInt32 &&& 255).toBitVec = (v.toBitVec >>> (b.toBitVec % 64#64).toNat).signExtend 32 &&& 255#32 := rfl
  rw [h1, h2, ha, hb]
  exact bm_core v.toBitVec k hk
theorem bM_0 (v : Int64) : (v >>> ((0 : Int32).toInt64 &&& 63)).toInt32 &&& 255 = bC v 0 := bm_gen v _ _ 0 (by decide) (by decide) (by decide)
theorem bM_1 (v : Int64) : (v >>> ((8 : Int32).toInt64 &&& 63)).toInt32 &&& 255 = bC v 1 := bm_gen v _ _ 8 (by decide) (by decide) (by decide)
theorem bM_2 (v : Int64) : (v >>> ((16 : Int32).toInt64 &&& 63)).toInt32 &&& 255 = bC v 2 := bm_gen v _ _ 16 (by decide) (by decide) (by decide)
theorem bM_3 (v : Int64) : (v >>> ((24 : Int32).toInt64 &&& 63)).toInt32 &&& 255 = bC v 3 := bm_gen v _ _ 24 (by decide) (by decide) (by decide)
theorem bM_4 (v : Int64) : (v >>> ((32 : Int32).toInt64 &&& 63)).toInt32 &&& 255 = bC v 4 := bm_gen v _ _ 32 (by decide) (by decide) (by decide)
theorem bM_5 (v : Int64) : (v >>> ((40 : Int32).toInt64 &&& 63)).toInt32 &&& 255 = bC v 5 := bm_gen v _ _ 40 (by decide) (by decide) (by decide)
theorem bM_6 (v : Int64) : (v >>> ((48 : Int32).toInt64 &&& 63)).toInt32 &&& 255 = bC v 6 := bm_gen v _ _ 48 (by decide) (by decide) (by decide)
theorem bM_7 (v : Int64) : (v >>> ((56 : Int32).toInt64 &&& 63)).toInt32 &&& 255 = bC v 7 := bm_gen v _ _ 56 (by decide) (by decide) (by decide)
