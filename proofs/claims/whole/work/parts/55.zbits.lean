/-! Long.bitCount, byte by byte -/
theorem and_split {x y u v : Nat} (hy : y < 256) (hv : v < 256) : (256 * x + y) &&& (256 * u + v) = 256 * (x &&& u) + (y &&& v) := by
  have hyv : y &&& v < 2 ^ 8 := Nat.lt_of_le_of_lt Nat.and_le_left hy
  apply Nat.eq_of_testBit_eq
  intro i
  rw [Nat.testBit_and, show (256 : Nat) = 2 ^ 8 from rfl, Nat.testBit_two_pow_mul_add x (show y < 2 ^ 8 from hy), Nat.testBit_two_pow_mul_add u (show v < 2 ^ 8 from hv), Nat.testBit_two_pow_mul_add (x &&& u) hyv]
  split
  · rw [Nat.testBit_and]
  · rw [Nat.testBit_and]
/-- the three steps on k bytes -/
def mk5 : Nat → Nat
  | 0 => 0
  | k + 1 => 256 * mk5 k + 85
def mk3 : Nat → Nat
  | 0 => 0
  | k + 1 => 256 * mk3 k + 51
def mkF : Nat → Nat
  | 0 => 0
  | k + 1 => 256 * mkF k + 15
def sb1 (k n : Nat) : Nat := n - ((n / 2) &&& mk5 k)
def sb2 (k n : Nat) : Nat := (n &&& mk3 k) + ((n / 4) &&& mk3 k)
def sb3 (k n : Nat) : Nat := (n + n / 16) &&& mkF k
theorem mk5_le (k n : Nat) : (n / 2) &&& mk5 k ≤ n := Nat.le_trans Nat.and_le_left (Nat.div_le_self n 2)
theorem t1b : ∀ b, b < 256 → ∀ c, c < 2 → ((128 * c + b / 2) &&& 85 = (b / 2) &&& 85) ∧ b - ((b / 2) &&& 85) < 256 := by decide +kernel
theorem sb1_split (k h : Nat) {b : Nat} (hb : b < 256) : sb1 (k + 1) (256 * h + b) = 256 * sb1 k h + (b - ((b / 2) &&& 85)) := by
  unfold sb1
  have e : (256 * h + b) / 2 = 256 * (h / 2) + (128 * (h % 2) + b / 2) := by omega
  have h1 := (t1b b hb (h % 2) (Nat.mod_lt _ (by decide))).1
  have h2 := mk5_le k h
  have h3 : (b / 2) &&& 85 ≤ b := Nat.le_trans Nat.and_le_left (Nat.div_le_self b 2)
  rw [e, mk5, and_split (by omega) (by omega), h1]
  omega
theorem t2b : ∀ b, b < 256 → ∀ c, c < 4 → ((64 * c + b / 4) &&& 51 = (b / 4) &&& 51) ∧ (b &&& 51) + ((b / 4) &&& 51) < 256 := by decide +kernel
theorem sb2_split (k h : Nat) {b : Nat} (hb : b < 256) : sb2 (k + 1) (256 * h + b) = 256 * sb2 k h + ((b &&& 51) + ((b / 4) &&& 51)) := by
  unfold sb2
  have e : (256 * h + b) / 4 = 256 * (h / 4) + (64 * (h % 4) + b / 4) := by omega
  have h1 := (t2b b hb (h % 4) (Nat.mod_lt _ (by decide))).1
  rw [e, mk3, and_split hb (by omega), and_split (by omega) (by omega), h1]
  omega
/-- a byte whose halves are small -/
theorem t3b : ∀ b, b < 256 → b % 16 ≤ 4 → b / 16 ≤ 4 → ∀ c, c < 5 → ((16 * c + b + b / 16) % 256 &&& 15 = (b + b / 16) &&& 15) ∧ 16 * c + b + b / 16 < 256 := by decide +kernel
theorem sb3_split (k h : Nat) {b : Nat} (hb : b < 256) (hb1 : b % 16 ≤ 4) (hb2 : b / 16 ≤ 4) (hh : h % 16 ≤ 4) : sb3 (k + 1) (256 * h + b) = 256 * sb3 k h + ((b + b / 16) &&& 15) := by
  unfold sb3
  have h1 := t3b b hb hb1 hb2 (h % 16) (by omega)
  have e : 256 * h + b + (256 * h + b) / 16 = 256 * (h + h / 16) + (16 * (h % 16) + b + b / 16) := by omega
  rw [e, mkF, and_split h1.2 (by omega)]
  have h2 := h1.1
  rw [Nat.mod_eq_of_lt h1.2] at h2
  rw [h2]
/-- the bits of a byte -/
def pc (b : Nat) : Nat := cntF b.testBit 8
def b1 (b : Nat) : Nat := b - ((b / 2) &&& 85)
def b2 (b : Nat) : Nat := (b &&& 51) + ((b / 4) &&& 51)
theorem tby : ∀ b, b < 256 → b1 b < 256 ∧ b2 (b1 b) < 256 ∧ b2 (b1 b) % 16 ≤ 4 ∧ b2 (b1 b) / 16 ≤ 4 ∧ ((b2 (b1 b) + b2 (b1 b) / 16) &&& 15) = pc b ∧ pc b ≤ 8 := by decide +kernel
theorem cntF_split (P : Nat → Bool) (a : Nat) : ∀ n, cntF P (a + n) = cntF P a + cntF (fun i => P (a + i)) n
  | 0 => rfl
  | n + 1 => by
    show cntF P ((a + n) + 1) = _
    rw [cntF, cntF, cntF_split P a n]
    split <;> omega
theorem cntF_ext {P Q : Nat → Bool} : ∀ {n : Nat}, (∀ i, i < n → P i = Q i) → cntF P n = cntF Q n
  | 0, _ => rfl
  | n + 1, h => by
    rw [cntF, cntF, h n (by omega), cntF_ext (n := n) (fun i hi => h i (by omega))]
theorem pc_split (h : Nat) {b : Nat} (hb : b < 256) (n : Nat) : cntF (256 * h + b).testBit (8 + n) = pc b + cntF h.testBit n := by
  rw [cntF_split]
  have t : ∀ i, (256 * h + b).testBit i = if i < 8 then b.testBit i else h.testBit (i - 8) := fun i => Nat.testBit_two_pow_mul_add h (show b < 2 ^ 8 from hb) i
  congr 1
  · exact cntF_ext (fun i hi => by rw [t, if_pos hi])
  · refine cntF_ext (fun i _ => ?_)
    rw [t, if_neg (by omega)]
    congr 1; omega
/-- five bytes -/
theorem bits5 {n : Nat} (hn : n < 2 ^ 40) : ∃ c0 c1 c2 c3 c4 : Nat, c0 ≤ 8 ∧ c1 ≤ 8 ∧ c2 ≤ 8 ∧ c3 ≤ 8 ∧ c4 ≤ 8 ∧ sb3 8 (sb2 8 (sb1 8 n)) = c0 + 256 * c1 + 65536 * c2 + 16777216 * c3 + 4294967296 * c4 ∧ cntF n.testBit 62 = c0 + c1 + c2 + c3 + c4 := by
  have z1 : ∀ k, sb1 k 0 = 0 := fun k => by unfold sb1; simp
  have z2 : ∀ k, sb2 k 0 = 0 := fun k => by unfold sb2; simp
  have z3 : ∀ k, sb3 k 0 = 0 := fun k => by unfold sb3; simp
  obtain ⟨a0, e0⟩ : ∃ a, a = n % 256 := ⟨_, rfl⟩
  obtain ⟨a1, e1⟩ : ∃ a, a = n / 256 % 256 := ⟨_, rfl⟩
  obtain ⟨a2, e2⟩ : ∃ a, a = n / 65536 % 256 := ⟨_, rfl⟩
  obtain ⟨a3, e3⟩ : ∃ a, a = n / 16777216 % 256 := ⟨_, rfl⟩
  obtain ⟨a4, e4⟩ : ∃ a, a = n / 4294967296 := ⟨_, rfl⟩
  have l0 : a0 < 256 := by omega
  have l1 : a1 < 256 := by omega
  have l2 : a2 < 256 := by omega
  have l3 : a3 < 256 := by omega
  have l4 : a4 < 256 := by omega
  have en : n = 256 * (256 * (256 * (256 * (256 * 0 + a4) + a3) + a2) + a1) + a0 := by omega
  obtain ⟨x0, y0, u0, v0, w0, p0⟩ := tby a0 l0
  obtain ⟨x1, y1, u1, v1, w1, p1⟩ := tby a1 l1
  obtain ⟨x2, y2, u2, v2, w2, p2⟩ := tby a2 l2
  obtain ⟨x3, y3, u3, v3, w3, p3⟩ := tby a3 l3
  obtain ⟨x4, y4, u4, v4, w4, p4⟩ := tby a4 l4
  have f1 : sb1 8 n = 256 * (256 * (256 * (256 * (256 * 0 + b1 a4) + b1 a3) + b1 a2) + b1 a1) + b1 a0 := by
    rw [en, sb1_split 7 _ l0, sb1_split 6 _ l1, sb1_split 5 _ l2, sb1_split 4 _ l3, sb1_split 3 _ l4, z1]; rfl
  have f2 : sb2 8 (sb1 8 n) = 256 * (256 * (256 * (256 * (256 * 0 + b2 (b1 a4)) + b2 (b1 a3)) + b2 (b1 a2)) + b2 (b1 a1)) + b2 (b1 a0) := by
    rw [f1, sb2_split 7 _ x0, sb2_split 6 _ x1, sb2_split 5 _ x2, sb2_split 4 _ x3, sb2_split 3 _ x4, z2]; rfl
  have f3 : sb3 8 (sb2 8 (sb1 8 n)) = 256 * (256 * (256 * (256 * (256 * 0 + pc a4) + pc a3) + pc a2) + pc a1) + pc a0 := by
    rw [f2, sb3_split 7 _ y0 u0 v0 (by omega), sb3_split 6 _ y1 u1 v1 (by omega), sb3_split 5 _ y2 u2 v2 (by omega), sb3_split 4 _ y3 u3 v3 (by omega), sb3_split 3 _ y4 u4 v4 (by omega), z3, w0, w1, w2, w3, w4]
  refine ⟨pc a0, pc a1, pc a2, pc a3, pc a4, p0, p1, p2, p3, p4, by rw [f3]; omega, ?_⟩
  have hz : cntF (0 : Nat).testBit 22 = 0 := by decide
  rw [en, show (62 : Nat) = 8 + (8 + (8 + (8 + (8 + 22)))) from rfl, pc_split _ l0, pc_split _ l1, pc_split _ l2, pc_split _ l3, pc_split _ l4, hz]
  omega
theorem zl_ushr {n k : Nat} (hn : n < 2 ^ 63) (hk : k < 64) : ((lN n).toUInt64 >>> ((nI k).toInt64.toUInt64 &&& Int64.toUInt64 63)).toInt64 = lN (n / 2 ^ k) := by
  have hc : ∀ k, k < 64 → ((nI k).toInt64.toUInt64 &&& Int64.toUInt64 63) = UInt64.ofNat k := by decide +kernel
  rw [hc k hk]
  apply zl_inj
  show ((lN n).toUInt64 >>> UInt64.ofNat k).toBitVec = BitVec.ofNat 64 (n / 2 ^ k)
  apply BitVec.eq_of_toNat_eq
  have hd : n / 2 ^ k ≤ n := Nat.div_le_self _ _
  have e1 : (lN n).toUInt64.toNat = n := by
    show (BitVec.ofNat 64 n).toNat = n
    rw [BitVec.toNat_ofNat, Nat.mod_eq_of_lt (by omega)]
  show ((lN n).toUInt64 >>> UInt64.ofNat k).toNat = _
  rw [UInt64.toNat_shiftRight, e1, UInt64.toNat_ofNat', Nat.mod_eq_of_lt (show k < 2 ^ 64 by omega), Nat.mod_eq_of_lt (show k < 64 from hk), Nat.shiftRight_eq_div_pow, BitVec.toNat_ofNat, Nat.mod_eq_of_lt (by omega)]
theorem zl_addN {a b : Nat} : lN a + lN b = lN (a + b) := by
  rw [lI_lN, lI_lN, lI_lN, Int.natCast_add]; exact (Int64.ofInt_add ..).symm
theorem zl_subN {a b : Nat} (h : b ≤ a) : lN a - lN b = lN (a - b) := by
  rw [lI_lN, lI_lN, lI_lN, Int.ofNat_sub h]; exact (Int64.ofInt_sub ..).symm
theorem zl_l2i (x : Nat) : (lN x).toInt32 = nI x := by
  apply Int32.toBitVec_inj.1
  show (BitVec.ofNat 64 x).signExtend 32 = BitVec.ofNat 32 x
  apply BitVec.eq_of_toNat_eq
  rw [BitVec.signExtend_eq_setWidth_of_le _ (by decide), BitVec.toNat_setWidth, BitVec.toNat_ofNat, BitVec.toNat_ofNat, Nat.mod_mod_of_dvd _ (by decide)]
theorem zl_127 (x : Nat) : nI x &&& z_nn 127 0 = iI ((x % 128 : Nat) : Int) := by
  rw [show z_nn 127 0 = nI 127 from (iI_nI 127).symm, ← iI_nI]
  apply Int32.toBitVec_inj.1
  show BitVec.ofNat 32 x &&& BitVec.ofNat 32 127 = BitVec.ofNat 32 (x % 128)
  apply BitVec.eq_of_toNat_eq
  rw [BitVec.toNat_and, BitVec.toNat_ofNat, BitVec.toNat_ofNat, BitVec.toNat_ofNat, show (127 % 2 ^ 32 : Nat) = 2 ^ 7 - 1 from rfl, Nat.and_two_pow_sub_one_eq_mod, Nat.mod_mod_of_dvd _ (by decide : (2 ^ 7 : Nat) ∣ 2 ^ 32), Nat.mod_eq_of_lt (show x % 128 < 2 ^ 32 by omega)]
def sp_bitCount : Sp := sp0 0 (fun as K => ∃ m : Nat, as = [.long (lN m)] ∧ m < 2 ^ 40 ∧ K (some (.int (iI (cntF m.testBit 62 : Nat)))))
set_option maxRecDepth 20000 in
theorem v_bitCount (l : Launch) : z_V l 271 sp_bitCount := by
  refine z_V.ofP (by decide +kernel) ?_
  rintro as σ K Post ⟨rfl, m, rfl, hm, hK⟩ hP1 hP0
  obtain ⟨c0, c1, c2, c3, c4, h0, h1, h2, h3, h4, hT, hC⟩ := bits5 hm
  have k5 : k_lv 6148914691236517205 2 = lN (mk5 8) := by show lN _ = lN _; congr 1
  have k3 : k_lv 3689348814741910323 2 = lN (mk3 8) := by show lN _ = lN _; congr 1
  have kF : k_lv 1085102592571150095 2 = lN (mkF 8) := by show lN _ = lN _; congr 1
  have m5 : mk5 8 < 2 ^ 63 := by decide
  have m3 : mk3 8 < 2 ^ 62 := by decide
  have mF : mkF 8 < 2 ^ 62 := by decide
  have d1 : m / 2 ≤ m := Nat.div_le_self _ _
  have i1 : sb1 8 m ≤ m := Nat.sub_le _ _
  have a2 : sb1 8 m &&& mk3 8 ≤ sb1 8 m := Nat.and_le_left
  have a3 : (sb1 8 m / 4) &&& mk3 8 ≤ sb1 8 m / 4 := Nat.and_le_left
  have i2 : sb2 8 (sb1 8 m) ≤ 2 * m := by unfold sb2; omega
  have sh : ∀ (n t : Nat), n < 2 ^ 63 → t < 64 → ((lN n).toUInt64 >>> ((z_nn t 0).toInt64.toUInt64 &&& Int64.toUInt64 63)).toInt64 = lN (n / 2 ^ t) := fun n t hn ht => by
    rw [show z_nn t 0 = nI t from (iI_nI t).symm]; exact zl_ushr hn ht
  have e1 : lN m - ((((lN m).toUInt64 >>> ((z_nn 1 0).toInt64.toUInt64 &&& Int64.toUInt64 63)).toInt64) &&& lN (mk5 8)) = lN (sb1 8 m) := by
    rw [sh m 1 (by omega) (by omega), zl_and (by omega) (by omega), zl_subN (mk5_le 8 m)]; rfl
  have e2 : (lN (sb1 8 m) &&& lN (mk3 8)) + ((((lN (sb1 8 m)).toUInt64 >>> ((z_nn 2 0).toInt64.toUInt64 &&& Int64.toUInt64 63)).toInt64) &&& lN (mk3 8)) = lN (sb2 8 (sb1 8 m)) := by
    rw [sh _ 2 (by omega) (by omega), zl_and (by omega) (by omega), zl_and (by omega) (by omega), zl_addN]; rfl
  have e3 : (lN (sb2 8 (sb1 8 m)) + ((lN (sb2 8 (sb1 8 m))).toUInt64 >>> ((z_nn 4 0).toInt64.toUInt64 &&& Int64.toUInt64 63)).toInt64) &&& lN (mkF 8) = lN (sb3 8 (sb2 8 (sb1 8 m))) := by
    have := Nat.div_le_self (sb2 8 (sb1 8 m)) (2 ^ 4)
    rw [sh _ 4 (by omega) (by omega), zl_addN, zl_and (by omega) (by omega)]; rfl
  obtain ⟨T, hTe⟩ : ∃ T, T = sb3 8 (sb2 8 (sb1 8 m)) := ⟨_, rfl⟩
  rw [← hTe] at hT e3
  refine AW.go (bs := b_Lng_bitCount) [] 90 t_Lng_bitCount ?_
  show Post _ _
  rw [k5, k3, kF, e1, e2, e3, sh T 8 (by omega) (by omega), zl_addN, sh (T + T / 2 ^ 8) 16 (by omega) (by omega), zl_addN, sh (T + T / 2 ^ 8 + (T + T / 2 ^ 8) / 2 ^ 16) 32 (by omega) (by omega), zl_addN, zl_l2i, zl_127]
  have hfin : (T + T / 2 ^ 8 + (T + T / 2 ^ 8) / 2 ^ 16 + (T + T / 2 ^ 8 + (T + T / 2 ^ 8) / 2 ^ 16) / 2 ^ 32) % 128 = cntF m.testBit 62 := by
    rw [hC, hT]
    have q1 : (c0 + 256 * c1 + 65536 * c2 + 16777216 * c3 + 4294967296 * c4) / 2 ^ 8 = c1 + 256 * c2 + 65536 * c3 + 16777216 * c4 := by omega
    rw [q1]
    have q2 : (c0 + 256 * c1 + 65536 * c2 + 16777216 * c3 + 4294967296 * c4 + (c1 + 256 * c2 + 65536 * c3 + 16777216 * c4)) / 2 ^ 16 = (c2 + c3) + 256 * (c3 + c4) + 65536 * c4 := by omega
    rw [q2]
    have q3 : (c0 + 256 * c1 + 65536 * c2 + 16777216 * c3 + 4294967296 * c4 + (c1 + 256 * c2 + 65536 * c3 + 16777216 * c4) + ((c2 + c3) + 256 * (c3 + c4) + 65536 * c4)) / 2 ^ 32 = c4 := by omega
    rw [q3]
    omega
  rw [hfin]
  exact hP0 _ hK
