/-! numbers: every int is iI of an Int -/
def iI (a : Int) : Int32 := Int32.ofInt a
def lI (a : Int) : Int64 := Int64.ofInt a
/-- in the ints' range -/
def ir (a : Int) : Prop := -2147483648 ≤ a ∧ a ≤ 2147483647
theorem iI_toInt {a : Int} (h1 : -2147483648 ≤ a) (h2 : a ≤ 2147483647) : (iI a).toInt = a := by
  unfold iI
  rw [Int32.toInt_ofInt]
  exact Int.bmod_eq_of_le (by have : Int32.size = 4294967296 := rfl; omega) (by have : Int32.size = 4294967296 := rfl; omega)
theorem iI_ex (x : Int32) : ∃ a : Int, (-2147483648 ≤ a ∧ a ≤ 2147483647) ∧ x = iI a := by
  refine ⟨x.toInt, ⟨?_, ?_⟩, ?_⟩
  · have := Int32.le_toInt x; simpa using this
  · have := Int32.toInt_lt x; simp at this; omega
  · exact (Int32.ofInt_toInt x).symm
theorem iI_nI (n : Nat) : nI n = iI (n : Int) := by
  unfold nI iI
  exact (Int32.ofInt_eq_ofNat ..).symm
theorem iI_0 : (0 : Int32) = iI 0 := by decide
theorem iI_1 : (1 : Int32) = iI 1 := by decide
theorem iI_m1 : (-1 : Int32) = iI (-1) := by decide
theorem iI_add (a b : Int) : iI a + iI b = iI (a + b) := (Int32.ofInt_add a b).symm
theorem iI_sub (a b : Int) : iI a - iI b = iI (a - b) := (Int32.ofInt_sub a b).symm
theorem iI_mul (a b : Int) : iI a * iI b = iI (a * b) := (Int32.ofInt_mul a b).symm
theorem iI_inj {a b : Int} (ha : -2147483648 ≤ a) (ha2 : a ≤ 2147483647) (hb : -2147483648 ≤ b) (hb2 : b ≤ 2147483647) : iI a = iI b ↔ a = b := by
  rw [← Int32.toInt_inj, iI_toInt ha ha2, iI_toInt hb hb2]
theorem iI_lt {a b : Int} (ha : -2147483648 ≤ a) (ha2 : a ≤ 2147483647) (hb : -2147483648 ≤ b) (hb2 : b ≤ 2147483647) : iI a < iI b ↔ a < b := by
  rw [Int32.lt_iff_toInt_lt, iI_toInt ha ha2, iI_toInt hb hb2]
theorem iI_le {a b : Int} (ha : -2147483648 ≤ a) (ha2 : a ≤ 2147483647) (hb : -2147483648 ≤ b) (hb2 : b ≤ 2147483647) : iI a ≤ iI b ↔ a ≤ b := by
  rw [Int32.le_iff_toInt_le, iI_toInt ha ha2, iI_toInt hb hb2]
theorem iI_cl {a : Int} (ha : 0 ≤ a) (ha2 : a ≤ 2147483647) : (iI a).toNatClampNeg = a.toNat := by
  show (iI a).toInt.toNat = a.toNat
  rw [iI_toInt (by omega) ha2]
theorem iI_in {a : Int} {n : Nat} (ha : -2147483648 ≤ a) (ha2 : a ≤ 2147483647) : vp_in (iI a) n ↔ 0 ≤ a ∧ a < (n : Int) := by
  rw [vp_in_iff, iI_toInt ha ha2]
theorem iI_div {a b : Int} (ha : 0 ≤ a) (ha2 : a ≤ 2147483647) (hb : 0 < b) (hb2 : b ≤ 2147483647) : iI a / iI b = iI (a / b) := by
  obtain ⟨n, rfl⟩ := Int.eq_ofNat_of_zero_le ha
  obtain ⟨m, rfl⟩ := Int.eq_ofNat_of_zero_le (Int.le_of_lt hb)
  rw [← iI_nI, ← iI_nI, pk_div (by omega) (by omega) (by omega), iI_nI]
  rfl
theorem iI_rem {a b : Int} (ha : 0 ≤ a) (ha2 : a ≤ 2147483647) (hb : 0 < b) (hb2 : b ≤ 2147483647) : iI a - iI a / iI b * iI b = iI (a % b) := by
  rw [iI_div ha ha2 hb hb2, iI_mul, iI_sub]
  congr 1
  rw [Int.emod_def, Int.mul_comm]
theorem lI_toInt {a : Int} (h1 : -9223372036854775808 ≤ a) (h2 : a ≤ 9223372036854775807) : (lI a).toInt = a := by
  unfold lI
  rw [Int64.toInt_ofInt]
  exact Int.bmod_eq_of_le (by have : Int64.size = 18446744073709551616 := rfl; omega) (by have : Int64.size = 18446744073709551616 := rfl; omega)
theorem lI_lN (n : Nat) : lN n = lI (n : Int) := by
  unfold lN lI
  exact (Int64.ofInt_eq_ofNat ..).symm
theorem lI_neg (n : Nat) : -(lN n) = lI (-(n : Int)) := by
  rw [lI_lN]
  exact (Int64.ofInt_neg ..).symm
theorem lI_of {a : Int} (h1 : -2147483648 ≤ a) (h2 : a ≤ 2147483647) : (iI a).toInt64 = lI a := by
  rw [← Int64.toInt_inj, Int32.toInt_toInt64, iI_toInt h1 h2, lI_toInt (by omega) (by omega)]
theorem lI_le {a b : Int} (ha : -9223372036854775808 ≤ a) (ha2 : a ≤ 9223372036854775807) (hb : -9223372036854775808 ≤ b) (hb2 : b ≤ 9223372036854775807) : lI a ≤ lI b ↔ a ≤ b := by
  rw [Int64.le_iff_toInt_le, lI_toInt ha ha2, lI_toInt hb hb2]
theorem lI_lt {a b : Int} (ha : -9223372036854775808 ≤ a) (ha2 : a ≤ 9223372036854775807) (hb : -9223372036854775808 ≤ b) (hb2 : b ≤ 9223372036854775807) : lI a < lI b ↔ a < b := by
  rw [Int64.lt_iff_toInt_lt, lI_toInt ha ha2, lI_toInt hb hb2]
theorem lI_inj {a b : Int} (ha : -9223372036854775808 ≤ a) (ha2 : a ≤ 9223372036854775807) (hb : -9223372036854775808 ≤ b) (hb2 : b ≤ 9223372036854775807) : lI a = lI b ↔ a = b := by
  rw [← Int64.toInt_inj, lI_toInt ha ha2, lI_toInt hb hb2]
/-! what a comparison of longs leaves -/
theorem lg_lt0 (x y : Int64) : lg_cmp x y < 0 ↔ x < y := by
  unfold lg_cmp
  split
  · next h => exact ⟨fun q => absurd q (by decide), fun q => by rw [gt_iff_lt] at h; rw [Int64.lt_iff_toInt_lt] at q h; omega⟩
  · split
    · next h => subst h; exact ⟨fun q => absurd q (by decide), fun q => by rw [Int64.lt_iff_toInt_lt] at q; omega⟩
    · next h1 h2 =>
      refine ⟨fun _ => ?_, fun _ => by decide⟩
      rw [gt_iff_lt] at h1
      rw [Int64.lt_iff_toInt_lt] at h1 ⊢
      rw [← Int64.toInt_inj] at h2
      omega
theorem lg_le0 (x y : Int64) : lg_cmp x y ≤ 0 ↔ x ≤ y := by
  unfold lg_cmp
  split
  · next h => exact ⟨fun q => absurd q (by decide), fun q => by rw [gt_iff_lt, Int64.lt_iff_toInt_lt] at h; rw [Int64.le_iff_toInt_le] at q; omega⟩
  · next h1 =>
    have : x ≤ y := by rw [gt_iff_lt, Int64.lt_iff_toInt_lt] at h1; rw [Int64.le_iff_toInt_le]; omega
    split
    · exact ⟨fun _ => this, fun _ => by decide⟩
    · exact ⟨fun _ => this, fun _ => by decide⟩
theorem lg_0le (x y : Int64) : 0 ≤ lg_cmp x y ↔ y ≤ x := lg_cmp_ge x y
theorem lg_0lt (x y : Int64) : 0 < lg_cmp x y ↔ y < x := by
  rw [← Int32.not_le, lg_le0, Int64.lt_iff_toInt_lt, Int64.le_iff_toInt_le]
  omega
theorem lg_eq0 (x y : Int64) : lg_cmp x y = 0 ↔ x = y := by
  unfold lg_cmp
  split
  · next h => exact ⟨fun q => absurd q (by decide), fun q => by subst q; rw [gt_iff_lt, Int64.lt_iff_toInt_lt] at h; omega⟩
  · split
    · next h => exact ⟨fun _ => h, fun _ => rfl⟩
    · next h => exact ⟨fun q => absurd q (by decide), fun q => absurd q h⟩
