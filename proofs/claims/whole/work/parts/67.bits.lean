/-! bits of small numbers -/
theorem nI_or (a b : Nat) : nI a ||| nI b = nI (a ||| b) := by
  refine Int32.toBitVec_inj.mp ?_
  show BitVec.ofNat 32 a ||| BitVec.ofNat 32 b = BitVec.ofNat 32 (a ||| b)
  refine BitVec.eq_of_toNat_eq ?_
  simp only [BitVec.toNat_or, BitVec.toNat_ofNat, Nat.or_mod_two_pow]
theorem nI_and (a b : Nat) : nI a &&& nI b = nI (a &&& b) := by
  refine Int32.toBitVec_inj.mp ?_
  show BitVec.ofNat 32 a &&& BitVec.ofNat 32 b = BitVec.ofNat 32 (a &&& b)
  refine BitVec.eq_of_toNat_eq ?_
  simp only [BitVec.toNat_and, BitVec.toNat_ofNat, Nat.and_mod_two_pow]
theorem nI_xor (a b : Nat) : nI a ^^^ nI b = nI (a ^^^ b) := by
  refine Int32.toBitVec_inj.mp ?_
  show BitVec.ofNat 32 a ^^^ BitVec.ofNat 32 b = BitVec.ofNat 32 (a ^^^ b)
  refine BitVec.eq_of_toNat_eq ?_
  simp only [BitVec.toNat_xor, BitVec.toNat_ofNat, Nat.xor_mod_two_pow]
theorem nI_31 {k : Nat} (h : k < 32) : nI k &&& 31 = nI k := by
  have e : (31 : Int32) = nI 31 := rfl
  rw [e, nI_and, show 31 = 2 ^ 5 - 1 from rfl, Nat.and_two_pow_sub_one_eq_mod, Nat.mod_eq_of_lt (by omega)]
theorem nI_smod {k : Nat} (h : k < 32) : ((nI k).toBitVec.smod 32).toNat = k := by
  have key : ∀ k : Fin 32, ((nI k.val).toBitVec.smod 32).toNat = k.val := by decide
  exact key ⟨k, h⟩
theorem nI_shl {a k : Nat} (hk : k < 32) (h : a * 2 ^ k < 2 ^ 32) : nI a <<< (nI k &&& 31) = nI (a * 2 ^ k) := by
  rw [nI_31 hk]
  exact pk_shlN (nI k) k (nI_smod hk) h
theorem nI_bit {k : Nat} (hk : k < 32) : (1 : Int32) <<< (nI k &&& 31) = nI (2 ^ k) := by
  have h := nI_shl (a := 1) hk (by rw [Nat.one_mul]; exact Nat.pow_lt_pow_right (by omega) hk)
  rw [Nat.one_mul] at h
  exact h
theorem nI_shr {a k : Nat} (ha : a < 2 ^ 31) (hk : k < 32) : nI a >>> (nI k &&& 31) = nI (a / 2 ^ k) := by
  rw [nI_31 hk]
  exact pk_shrN ha (nI k) k (nI_smod hk)
/-- a bit, as a number -/
def bN (b : Bool) : Nat := if b then 1 else 0
theorem nI_tb {a k : Nat} (ha : a < 2 ^ 31) (hk : k < 32) : (nI a >>> (nI k &&& 31)) &&& 1 = nI (bN (a.testBit k)) := by
  rw [nI_shr ha hk, n_1, nI_and, show (1 : Nat) = 2 ^ 1 - 1 from rfl, Nat.and_two_pow_sub_one_eq_mod]
  congr 1
  unfold bN
  rw [Nat.testBit_eq_decide_div_mod_eq]
  have := Nat.mod_lt (a / 2 ^ k) (show 2 > 0 by omega)
  by_cases h : a / 2 ^ k % 2 = 1
  · rw [h]; rfl
  · have h0 : a / 2 ^ k % 2 = 0 := by omega
    rw [show 2 ^ 1 = 2 from rfl, h0]; rfl
theorem nI_m1n : (-1 : Int32) = nI (2 ^ 32 - 1) := by decide
theorem tb_two {n k : Nat} : (2 ^ n).testBit k = decide (n = k) := Nat.testBit_two_pow
theorem tb_low {a n k : Nat} (h : a < 2 ^ n) (hk : n ≤ k) : a.testBit k = false := Nat.testBit_lt_two_pow (Nat.lt_of_lt_of_le h (Nat.pow_le_pow_right (by omega) hk))
theorem tb_all {k n : Nat} : (2 ^ n - 1).testBit k = decide (k < n) := Nat.testBit_two_pow_sub_one _ _
theorem bN_le (b : Bool) : bN b ≤ 1 := by cases b <;> decide
