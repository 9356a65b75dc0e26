/-! a bit by a shift -/
theorem and1 (x : Int64) : x &&& 1 = 1 ↔ x.toBitVec.getLsbD 0 = true := by
  constructor
  · intro h
    have : (x &&& 1).toBitVec.getLsbD 0 = true := by rw [h]; decide
    rw [Int64.toBitVec_and, BitVec.getLsbD_and, Bool.and_eq_true] at this
    exact this.1
  · intro h
    apply Int64.toBitVec_inj.mp
    apply BitVec.eq_of_getLsbD_eq
    intro k hk
    rw [Int64.toBitVec_and, BitVec.getLsbD_and]
    by_cases e : k = 0
    · subst e; rw [h]; decide
    · have : (1 : Int64).toBitVec.getLsbD k = false := by
        show (1#64).getLsbD k = false
        rw [BitVec.getLsbD_one]
        simp [e]
      rw [this, Bool.and_false]
theorem bt_test {v : Int64} {S : Nat → Bool} (h : bt v S) {i : Nat} (hi : i < 60) : (v >>> (Int32.toInt64 (nI i) &&& 63)) &&& 1 = 1 ↔ S i = true := by
  rw [and1, Int64.toBitVec_shiftRight, BitVec.sshiftRight_eq', BitVec.getLsbD_sshiftRight, show (((nI i).toInt64 &&& 63).toBitVec.smod 64).toNat = i from (bt_shr i hi).2, Nat.add_zero, if_pos (by omega), h.1 i (by omega)]
  simp
