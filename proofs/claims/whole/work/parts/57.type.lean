/-! typing -/
theorem by_one (v : BitVec 64) (s : Nat) (hs : s ≤ 56) : (v >>> s).setWidth 32 &&& 255#32 = ((v.sshiftRight s) &&& 255#64).setWidth 32 := by
  apply BitVec.eq_of_getLsbD_eq
  intro i hi
  rw [BitVec.getLsbD_and, BitVec.getLsbD_setWidth, BitVec.getLsbD_setWidth, BitVec.getLsbD_and, BitVec.getLsbD_ushiftRight, BitVec.getLsbD_sshiftRight]
  by_cases h8 : i < 8
  · have h1 : s + i < 64 := by omega
    have h2 : i < 64 := by omega
    have h3 : (255#32).getLsbD i = (255#64).getLsbD i := by
      rcases (show i = 0 ∨ i = 1 ∨ i = 2 ∨ i = 3 ∨ i = 4 ∨ i = 5 ∨ i = 6 ∨ i = 7 by omega) with rfl | rfl | rfl | rfl | rfl | rfl | rfl | rfl <;> rfl
    rw [h3]
    simp [hi, h1, h2, Nat.not_le.mpr h2]
  · have h3 : (255#32).getLsbD i = false := by
      rw [BitVec.getLsbD_ofNat]
      simp only [hi, decide_true, Bool.true_and]
      exact Nat.testBit_lt_two_pow (Nat.lt_of_lt_of_le (show 255 < 2 ^ 8 by decide) (Nat.pow_le_pow_right (by decide) (Nat.le_of_not_lt h8)))
    have h4 : (255#64).getLsbD i = false := by
      rw [BitVec.getLsbD_ofNat]
      simp only [show i < 64 by omega, decide_true, Bool.true_and]
      exact Nat.testBit_lt_two_pow (Nat.lt_of_lt_of_le (show 255 < 2 ^ 8 by decide) (Nat.pow_le_pow_right (by decide) (Nat.le_of_not_lt h8)))
    rw [h3, h4]
    simp
def byC (v : Int64) (p : Int32) : Int32 := ((v.toUInt64 >>> (((8 : Int32) * p).toInt64.toUInt64 &&& Int64.toUInt64 63)).toInt64).toInt32 &&& (255 : Int32)
def byR (v : Int64) (p : Int32) : Int32 := ((v >>> (((8 : Int32) * p).toInt64 &&& 63)) &&& (255 : Int64)).toInt32
theorem by_cs (v : Int64) (p : Int32) (s : Nat) (hs : s ≤ 56) (e : ((8 : Int32) * p).toInt64 &&& 63 = Int64.ofNat s) (e2 : ((8 : Int32) * p).toInt64.toUInt64 &&& Int64.toUInt64 63 = UInt64.ofNat s) : byC v p = byR v p := by
  unfold byC byR
  rw [e, e2]
  apply Int32.toBitVec_inj.mp
  have h1 : (v.toUInt64 >>> UInt64.ofNat s).toInt64.toBitVec = v.toBitVec >>> s := by
    show (v.toUInt64 >>> UInt64.ofNat s).toBitVec = _
    rw [UInt64.toBitVec_shiftRight]
    show v.toBitVec >>> ((BitVec.ofNat 64 s) % 64#64) = _
    rw [BitVec.ushiftRight_eq']
    congr 1
    rw [BitVec.toNat_umod, BitVec.toNat_ofNat]
    show s % 2 ^ 64 % 64 = s
    omega
  have h2 : (v >>> Int64.ofNat s).toBitVec = v.toBitVec.sshiftRight s := by
    rw [Int64.toBitVec_shiftRight]
    show v.toBitVec.sshiftRight' ((BitVec.ofNat 64 s).smod 64#64) = _
    rw [BitVec.sshiftRight_eq']
    congr 1
    rcases Nat.lt_or_ge s 57 with q | q
    · have : ∀ t : Nat, t < 57 → ((BitVec.ofNat 64 t).smod 64#64).toNat = t := by decide
      exact this s q
    · omega
  rw [Int32.toBitVec_and, Int64.toBitVec_toInt32, Int64.toBitVec_toInt32, h1, Int64.toBitVec_and, h2, BitVec.signExtend_eq_setWidth_of_le _ (by decide), BitVec.signExtend_eq_setWidth_of_le _ (by decide)]
  exact by_one v.toBitVec s hs
theorem by_eq (v : Int64) (k : Nat) (hk : k < 8) : byC v (nI k) = byR v (nI k) := by
  refine by_cs v (nI k) (8 * k) (by omega) ?_ ?_
  · rcases (show k = 0 ∨ k = 1 ∨ k = 2 ∨ k = 3 ∨ k = 4 ∨ k = 5 ∨ k = 6 ∨ k = 7 by omega) with rfl | rfl | rfl | rfl | rfl | rfl | rfl | rfl <;> decide
  · rcases (show k = 0 ∨ k = 1 ∨ k = 2 ∨ k = 3 ∨ k = 4 ∨ k = 5 ∨ k = 6 ∨ k = 7 by omega) with rfl | rfl | rfl | rfl | rfl | rfl | rfl | rfl <;> decide
theorem and_255 (x : Int32) : inN (x &&& 255) 256 := by
  have h : (x &&& 255).toBitVec.toNat < 256 := by
    rw [Int32.toBitVec_and, BitVec.toNat_and]
    exact Nat.lt_succ_of_le Nat.and_le_right
  have e : (x &&& 255).toInt = ((x &&& 255).toBitVec.toNat : Int) := by
    show (x &&& 255).toBitVec.toInt = _
    rw [BitVec.toInt_eq_toNat_cond, if_pos (by omega)]
  exact inN_of (by omega) (by omega) (by omega)
