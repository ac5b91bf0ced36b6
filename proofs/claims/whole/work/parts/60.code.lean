/-! The numbers that a coded rule holds. -/
section Code
theorem bv_sh (v mm : BitVec 32) (s : Nat) (hs : s ≤ 28) (hm : ∀ i, 4 ≤ i → mm.getLsbD i = false) : (v >>> s) &&& mm = (v.sshiftRight s) &&& mm := by
  apply BitVec.eq_of_getLsbD_eq
  intro i hi
  rw [BitVec.getLsbD_and, BitVec.getLsbD_and]
  by_cases c : 4 ≤ i
  · rw [hm i c, Bool.and_false, Bool.and_false]
  · rw [BitVec.getLsbD_ushiftRight, BitVec.getLsbD_sshiftRight, if_pos (by omega), decide_eq_false (by omega), Bool.not_false, Bool.true_and]
theorem and_nn (a b : Int32) (n : Nat) (hb : b.toBitVec.toNat ≤ n) (hn : n < 2147483648) : 0 ≤ (a &&& b).toInt ∧ (a &&& b).toInt ≤ n := by
  have e : (a &&& b).toInt = (a &&& b).toBitVec.toInt := rfl
  have h1 : (a &&& b).toBitVec.toNat ≤ n := by
    rw [Int32.toBitVec_and, BitVec.toNat_and]
    exact Nat.le_trans Nat.and_le_right hb
  rw [e, BitVec.toInt_eq_toNat_of_lt (by omega)]
  omega
theorem and3 (x : Int) : 0 ≤ b_and x 3 ∧ b_and x 3 ≤ 3 := and_nn _ _ 3 (by decide) (by decide)
theorem and7 (x : Int) : 0 ≤ b_and x 7 ∧ b_and x 7 ≤ 7 := and_nn _ _ 7 (by decide) (by decide)
theorem and15 (x : Int) : 0 ≤ b_and x 15 ∧ b_and x 15 ≤ 15 := and_nn _ _ 15 (by decide) (by decide)
theorem shr_core (x k m : Int) (s : Nat) (hs : s ≤ 28) (hm : ∀ i, 4 ≤ i → (Int32.ofInt m).toBitVec.getLsbD i = false) (h1 : ((Int32.ofInt k &&& 31).toBitVec.smod 32).toNat = s) (h2 : (((Int32.ofInt k).toUInt32 &&& Int32.toUInt32 31).toBitVec % 32).toNat = s) : b_and (b_ushr x k) m = b_and (b_shr x k) m := by
  unfold b_and b_ushr b_shr
  rw [Int32.ofInt_toInt, Int32.ofInt_toInt]
  have e : ((Int32.ofInt x).toUInt32 >>> ((Int32.ofInt k).toUInt32 &&& Int32.toUInt32 31)).toInt32 &&& Int32.ofInt m = (Int32.ofInt x >>> (Int32.ofInt k &&& 31)) &&& Int32.ofInt m := by
    apply Int32.toBitVec_inj.mp
    rw [Int32.toBitVec_and, Int32.toBitVec_and, Int32.toBitVec_shiftRight, BitVec.sshiftRight_eq', h1]
    rw [← bv_sh _ _ s hs hm]
    have q : ((Int32.ofInt x).toUInt32 >>> ((Int32.ofInt k).toUInt32 &&& Int32.toUInt32 31)).toInt32.toBitVec = (Int32.ofInt x).toBitVec >>> s := by
      show ((Int32.ofInt x).toUInt32 >>> ((Int32.ofInt k).toUInt32 &&& Int32.toUInt32 31)).toBitVec = _
      rw [UInt32.toBitVec_shiftRight, BitVec.ushiftRight_eq', h2]
      rfl
    rw [q]
  rw [e]
theorem m_hi (m : Int) (hm : m = 7 ∨ m = 15) : ∀ i, 4 ≤ i → (Int32.ofInt m).toBitVec.getLsbD i = false := by
  intro i hi
  have : (Int32.ofInt m).toBitVec.toNat < 2 ^ i := by
    have a : (Int32.ofInt m).toBitVec.toNat ≤ 15 := by rcases hm with e | e <;> subst e <;> decide
    have b : 2 ^ 4 ≤ 2 ^ i := Nat.pow_le_pow_right (by decide) hi
    omega
  exact Nat.testBit_lt_two_pow this
theorem shr_eq (x : Int) {k m : Int} (hk : k = 2 ∨ k = 5 ∨ k = 9 ∨ k = 13 ∨ k = 17) (hm : m = 7 ∨ m = 15) : b_and (b_ushr x k) m = b_and (b_shr x k) m := by
  rcases hk with e | e | e | e | e <;> subst e
  · exact shr_core x 2 m 2 (by decide) (m_hi m hm) (by decide) (by decide)
  · exact shr_core x 5 m 5 (by decide) (m_hi m hm) (by decide) (by decide)
  · exact shr_core x 9 m 9 (by decide) (m_hi m hm) (by decide) (by decide)
  · exact shr_core x 13 m 13 (by decide) (m_hi m hm) (by decide) (by decide)
  · exact shr_core x 17 m 17 (by decide) (m_hi m hm) (by decide) (by decide)
end Code
