/-! bits of ints (the first rows began as rows of the kit's laws to paste) -/
theorem zb_or0 (a b : Nat) : nI a ||| nI b = nI (a ||| b) := by
  apply Int32.toBitVec_inj.1
  show BitVec.ofNat 32 a ||| BitVec.ofNat 32 b = BitVec.ofNat 32 (a ||| b)
  apply BitVec.eq_of_getLsbD_eq
  intro i hi
  simp [hi]
theorem zb_sl : ∀ n, n < 32 → ((nI n &&& 31).toBitVec.smod 32).toNat = n := by decide +kernel
theorem zb_or (a b : Nat) : iI (a : Int) ||| iI (b : Int) = iI ((a ||| b : Nat) : Int) := by rw [← iI_nI, ← iI_nI, ← iI_nI, zb_or0]
theorem zb_shl : ∀ a : Nat, a < 31 → iI 1 <<< (iI (a : Int) &&& 31) = iI ((2 ^ a : Nat) : Int) := by decide +kernel
theorem zb_bit {m j : Nat} (hm : m < 2147483648) (hj : j < 31) : (iI (m : Int) >>> (iI (j : Int) &&& 31)) &&& iI 1 = iI (if m.testBit j then 1 else 0) := by
  rw [← iI_nI, ← iI_nI, pk_shrN (by omega) _ j (zb_sl j (by omega))]
  have h1 : iI 1 = (1 : Int32) := by decide
  rw [h1, pk_andN (m := 1) (by have := Nat.div_le_self m (2 ^ j); omega) 1 (by decide)]
  rw [iI_nI]
  congr 1
  rw [Nat.testBit_eq_decide_div_mod_eq]
  have : m / 2 ^ j % 2 < 2 := Nat.mod_lt _ (by decide)
  by_cases h : m / 2 ^ j % 2 = 1
  · simp [h]
  · have h0 : m / 2 ^ j % 2 = 0 := by omega
    simp [h0]
theorem zb_lt {m j : Nat} (hm : m < 65536) (hj : j < 16) : m ||| 2 ^ j < 65536 := Nat.or_lt_two_pow (n := 16) hm (Nat.pow_lt_pow_right (by decide) hj)
theorem zb_test (m j i : Nat) : (m ||| 2 ^ j).testBit i = (m.testBit i || decide (j = i)) := by
  rw [Nat.testBit_or, Nat.testBit_two_pow]
