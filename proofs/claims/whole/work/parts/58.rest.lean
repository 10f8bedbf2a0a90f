/-! the rest of a set -/
theorem rest_bit {S o : Nat} (ho : o < 2 ^ S) (i : Nat) : (2 ^ S - (o + 1)).testBit i = (decide (i < S) && !o.testBit i) := Nat.testBit_two_pow_sub_succ ho i
theorem rest_sub {S o t : Nat} (ho : o < 2 ^ S) (ht : t < 2 ^ S) : o &&& t = 0 ↔ t &&& (2 ^ S - (o + 1)) = t := by
  constructor
  · intro h
    apply Nat.eq_of_testBit_eq
    intro i
    rw [Nat.testBit_and, rest_bit ho]
    have e : (o &&& t).testBit i = false := by rw [h, Nat.zero_testBit]
    rw [Nat.testBit_and] at e
    by_cases c : t.testBit i = true
    · rw [c, Bool.and_true] at e
      have iS : i < S := by
        rcases Nat.lt_or_ge i S with q | q
        · exact q
        · have := Nat.testBit_lt_two_pow (Nat.lt_of_lt_of_le ht (Nat.pow_le_pow_right (by decide) q))
          rw [c] at this
          cases this
      rw [c, e, decide_eq_true iS]
      rfl
    · rw [Bool.eq_false_iff.mpr c, Bool.false_and]
  · intro h
    apply Nat.eq_of_testBit_eq
    intro i
    rw [Nat.testBit_and, Nat.zero_testBit]
    have e : (t &&& (2 ^ S - (o + 1))).testBit i = t.testBit i := by rw [h]
    rw [Nat.testBit_and, rest_bit ho] at e
    cases c : o.testBit i
    · rfl
    · rw [c] at e
      rw [Bool.true_and]
      simpa using e.symm
theorem i32_rest {S o : Nat} {a v : Int32} (ha : a.toInt = (2 ^ S : Nat)) (hv : v.toInt = o) (hS : S ≤ 9) (ho : o < 2 ^ S) : ((a - 1) &&& (v ^^^ (-1))).toInt = ((2 ^ S - (o + 1) : Nat) : Int) := by
  have p9 : 2 ^ S ≤ 2 ^ 9 := Nat.pow_le_pow_right (by decide) hS
  have p0 : 0 < 2 ^ S := Nat.pow_pos (by decide)
  have e1 : a - 1 = nI (2 ^ S - 1) := by
    have z1 : (1 : Int32).toInt = 1 := rfl
    rw [teq, tsub (by omega) (by omega), nI_toInt (by omega)]
    omega
  have e2 : v = nI o := by rw [teq, hv, nI_toInt (by omega)]
  have e3 : (nI (2 ^ S - 1)) &&& (nI o ^^^ (-1)) = nI (2 ^ S - (o + 1)) := by
    apply Int32.toBitVec_inj.mp
    apply BitVec.eq_of_getLsbD_eq
    intro i hi
    rw [Int32.toBitVec_and, Int32.toBitVec_xor, BitVec.getLsbD_and, BitVec.getLsbD_xor]
    show ((BitVec.ofNat 32 (2 ^ S - 1)).getLsbD i && ((BitVec.ofNat 32 o).getLsbD i ^^ (BitVec.allOnes 32).getLsbD i)) = (BitVec.ofNat 32 (2 ^ S - (o + 1))).getLsbD i
    rw [BitVec.getLsbD_ofNat, BitVec.getLsbD_ofNat, BitVec.getLsbD_ofNat, BitVec.getLsbD_allOnes, rest_bit ho, Nat.testBit_two_pow_sub_one, decide_eq_true hi]
    cases o.testBit i <;> simp
  rw [e1, e2, e3, nI_toInt (by omega)]
