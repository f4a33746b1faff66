/-! bits of ints (the first rows began as rows of the kit's laws to paste) -/
theorem zb_or0 (a b : Nat) : nI a ||| nI b = nI (a ||| b) := by
  apply Int32.toBitVec_inj.1
  show BitVec.ofNat 32 a ||| BitVec.ofNat 32 b = BitVec.ofNat 32 (a ||| b)
  apply BitVec.eq_of_getLsbD_eq
  intro i hi
  simp [hi]
theorem zb_sl : ∀ n, n < 32 → ((nI n &&& 31).toBitVec.smod 32).toNat = n := by decide +kernel
theorem zb_or (a b : Nat) : iI (a : Int) ||| iI (b : Int) = iI ((a ||| b : Nat) : Int) := by rw [← iI_nI, ← iI_nI, ← iI_nI, zb_or0]
theorem zb_shl : ∀ a : Nat, a < 31 → iI 1 <<< (iI (a : Int) &&& 31) = iI ((2 ^ a : Nat) : Int) := by decide +kernel
theorem zb_bit {m j : Nat} (hm : m < 2147483648) (hj : j < 31) : (iI (m : Int) >>> (iI (j : Int) &&& 31)) &&& iI 1 = iI (if m.testBit j then 1 else 0) := by
  rw [← iI_nI, ← iI_nI, pk_shrN (by omega) _ j (zb_sl j (by omega))]
  have h1 : iI 1 = (1 : Int32) := by decide
  rw [h1, pk_andN (m := 1) (by have := Nat.div_le_self m (2 ^ j); omega) 1 (by decide)]
  rw [iI_nI]
  congr 1
  rw [Nat.testBit_eq_decide_div_mod_eq]
  have : m / 2 ^ j % 2 < 2 := Nat.mod_lt _ (by decide)
  by_cases h : m / 2 ^ j % 2 = 1
  · simp [h]
  · have h0 : m / 2 ^ j % 2 = 0 := by omega
    simp [h0]
theorem zb_lt {m j : Nat} (hm : m < 65536) (hj : j < 16) : m ||| 2 ^ j < 65536 := Nat.or_lt_two_pow (n := 16) hm (Nat.pow_lt_pow_right (by decide) hj)
theorem zb_test (m j i : Nat) : (m ||| 2 ^ j).testBit i = (m.testBit i || decide (j = i)) := by
  rw [Nat.testBit_or, Nat.testBit_two_pow]
/-! sets of small numbers as masks -/
def bitsF (P : Nat → Bool) (g : Nat → Nat) : Nat → Nat
  | 0 => 0
  | n + 1 => if P n then bitsF P g n ||| 2 ^ g n else bitsF P g n
theorem bitsF_lt {P : Nat → Bool} {g : Nat → Nat} {w : Nat} : ∀ {n : Nat}, (∀ k, k < n → P k = true → g k < w) → bitsF P g n < 2 ^ w
  | 0, _ => Nat.two_pow_pos w
  | n + 1, h => by
    have ih := bitsF_lt (P := P) (g := g) (n := n) (fun k hk => h k (by omega))
    unfold bitsF
    split
    · next hp => exact Nat.or_lt_two_pow ih (Nat.pow_lt_pow_right (by decide) (h n (by omega) hp))
    · exact ih
theorem bitsF_test {P : Nat → Bool} {g : Nat → Nat} {i : Nat} : ∀ {n : Nat}, (bitsF P g n).testBit i = true ↔ ∃ k, k < n ∧ P k = true ∧ g k = i
  | 0 => by simp [bitsF]
  | n + 1 => by
    have ih := bitsF_test (P := P) (g := g) (i := i) (n := n)
    unfold bitsF
    split
    · next hp =>
      rw [zb_test, Bool.or_eq_true, ih, decide_eq_true_iff]
      constructor
      · rintro (⟨k, h1, h2, h3⟩ | h)
        · exact ⟨k, by omega, h2, h3⟩
        · exact ⟨n, by omega, hp, h⟩
      · rintro ⟨k, h1, h2, h3⟩
        rcases Nat.lt_or_ge k n with q | q
        · exact Or.inl ⟨k, q, h2, h3⟩
        · rw [show k = n by omega] at h3; exact Or.inr h3
    · next hp =>
      rw [ih]
      constructor
      · rintro ⟨k, h1, h2, h3⟩; exact ⟨k, by omega, h2, h3⟩
      · rintro ⟨k, h1, h2, h3⟩
        rcases Nat.lt_or_ge k n with q | q
        · exact ⟨k, q, h2, h3⟩
        · rw [show k = n by omega] at h2; exact absurd h2 hp
/-! longs -/
theorem zl_tb (n : Nat) : (lN n).toBitVec = BitVec.ofNat 64 n := rfl
theorem zl_inj {a b : Int64} (h : a.toBitVec = b.toBitVec) : a = b := Int64.toBitVec_inj.1 h
theorem zl_c : ∀ k, k < 64 → ((nI k).toInt64 &&& 63) = lN k := by decide +kernel
theorem zl_sm : ∀ k, k < 64 → (BitVec.ofNat 64 k).smod 64 = BitVec.ofNat 64 k := by decide +kernel
theorem zl_or {a b : Nat} (ha : a < 2 ^ 64) (hb : b < 2 ^ 64) : lN a ||| lN b = lN (a ||| b) := by
  apply zl_inj
  rw [Int64.toBitVec_or, zl_tb, zl_tb, zl_tb]
  apply BitVec.eq_of_toNat_eq
  rw [BitVec.toNat_or, BitVec.toNat_ofNat, BitVec.toNat_ofNat, BitVec.toNat_ofNat, Nat.mod_eq_of_lt ha, Nat.mod_eq_of_lt hb, Nat.mod_eq_of_lt (Nat.or_lt_two_pow ha hb)]
theorem zl_and {a b : Nat} (ha : a < 2 ^ 64) (hb : b < 2 ^ 64) : lN a &&& lN b = lN (a &&& b) := by
  apply zl_inj
  rw [Int64.toBitVec_and, zl_tb, zl_tb, zl_tb]
  apply BitVec.eq_of_toNat_eq
  rw [BitVec.toNat_and, BitVec.toNat_ofNat, BitVec.toNat_ofNat, BitVec.toNat_ofNat, Nat.mod_eq_of_lt ha, Nat.mod_eq_of_lt hb, Nat.mod_eq_of_lt (Nat.lt_of_le_of_lt Nat.and_le_left ha)]
theorem zl_shl : ∀ k : Nat, k < 62 → lN 1 <<< ((iI (k : Int)).toInt64 &&& 63) = lN (2 ^ k) := by decide +kernel
theorem zl_shr {n k : Nat} (hn : n < 2 ^ 62) (hk : k < 64) : lN n >>> ((iI (k : Int)).toInt64 &&& 63) = lN (n / 2 ^ k) := by
  rw [← iI_nI, zl_c k hk]
  have hd : n / 2 ^ k ≤ n := Nat.div_le_self _ _
  apply Int64.toInt_inj.mp
  have hD : ((lN k).toBitVec.smod 64).toNat = k := by
    rw [zl_tb, zl_sm k hk, BitVec.toNat_ofNat, Nat.mod_eq_of_lt (by omega)]
  have e : (lN n >>> lN k).toInt = (lN n).toInt >>> k := by
    rw [show (lN n).toInt >>> k = (lN n).toInt >>> ((lN k).toBitVec.smod 64).toNat by rw [hD]]
    exact BitVec.toInt_sshiftRight ..
  rw [e, Int.shiftRight_eq_div_pow, pk_lT (by omega), pk_lT (by omega)]
  rfl
theorem zl_bit {m j : Nat} (hm : m < 2 ^ 62) (hj : j < 62) : (lN m >>> ((iI (j : Int)).toInt64 &&& 63)) &&& lN 1 = lN (if m.testBit j then 1 else 0) := by
  have hd := Nat.div_le_self m (2 ^ j)
  rw [zl_shr hm (by omega), zl_and (by omega) (by omega)]
  congr 1
  rw [Nat.testBit_eq_decide_div_mod_eq, Nat.and_one_is_mod]
  have : m / 2 ^ j % 2 < 2 := Nat.mod_lt _ (by decide)
  by_cases h : m / 2 ^ j % 2 = 1
  · simp [h]
  · have h0 : m / 2 ^ j % 2 = 0 := by omega
    simp [h0]
theorem zl_ne0 (b : Bool) : z_cond .ne (lg_cmp (lN (if b then 1 else 0)) (lN 0)) 0 ↔ b = true := by
  show ¬ lg_cmp _ _ = 0 ↔ _
  rw [lg_eq0]
  cases b <;> decide
theorem zl_eq0 (b : Bool) : z_cond .eq (lg_cmp (lN (if b then 1 else 0)) (lN 0)) 0 ↔ b = false := by
  show lg_cmp _ _ = 0 ↔ _
  rw [lg_eq0]
  cases b <;> decide
