/-! small static questions: they have no world -/
def sp0 (rk : Nat) (P : List Value → (Option Value → Prop) → Prop) : Sp := (rk, 0, 0, [], fun as σ K => σ = [] ∧ P as (fun r => K r none))
def spR (rk : Nat) (lo hi : Int) : Sp := sp0 rk (fun as K => ∃ a : Int, as = [.int (iI a)] ∧ ir a ∧ K (some (.int (bI (decide (lo ≤ a ∧ a ≤ hi))))))
theorem v_isPerson (l : Launch) : z_V l 121 (spR 0 0 15) := by
  refine z_V.of (by decide +kernel) ?_
  rintro as σ K ⟨rfl, a, rfl, ⟨a1, a2⟩, hK⟩
  refine AW.go (bs := b_Appr_isPerson) [] 50 t_Appr_isPerson ?_
  refine And.intro (fun h => ?_) (fun h => ?_)
  · rw [zc_lt0 a1 a2] at h
    refine And.intro (Or.inl rfl) (Or.inl ⟨rfl, ?_⟩)
    rwa [decide_eq_false (by omega)] at hK
  · rw [zc_lt0 a1 a2] at h
    refine And.intro (fun h2 => ?_) (fun h2 => ?_)
    · rw [zn_i, zc_ge a1 a2 (by omega) (by omega)] at h2
      refine And.intro (Or.inl rfl) (Or.inl ⟨rfl, ?_⟩)
      rwa [decide_eq_false (by omega)] at hK
    · rw [zn_i, zc_ge a1 a2 (by omega) (by omega)] at h2
      refine And.intro (Or.inr rfl) (Or.inl ⟨rfl, ?_⟩)
      rwa [decide_eq_true (by omega)] at hK
theorem v_isDay (l : Launch) : z_V l 122 (spR 0 0 999) := by
  refine z_V.of (by decide +kernel) ?_
  rintro as σ K ⟨rfl, a, rfl, ⟨a1, a2⟩, hK⟩
  refine AW.go (bs := b_Appr_isDay) [] 50 t_Appr_isDay ?_
  refine And.intro (fun h => ?_) (fun h => ?_)
  · rw [zc_lt0 a1 a2] at h
    refine And.intro (Or.inl rfl) (Or.inl ⟨rfl, ?_⟩)
    rwa [decide_eq_false (by omega)] at hK
  · rw [zc_lt0 a1 a2] at h
    refine And.intro (fun h2 => ?_) (fun h2 => ?_)
    · rw [zn_i, zc_ge a1 a2 (by omega) (by omega)] at h2
      refine And.intro (Or.inl rfl) (Or.inl ⟨rfl, ?_⟩)
      rwa [decide_eq_false (by omega)] at hK
    · rw [zn_i, zc_ge a1 a2 (by omega) (by omega)] at h2
      refine And.intro (Or.inr rfl) (Or.inl ⟨rfl, ?_⟩)
      rwa [decide_eq_true (by omega)] at hK
theorem v_isKind (l : Launch) : z_V l 124 (spR 0 0 2) := by
  refine z_V.of (by decide +kernel) ?_
  rintro as σ K ⟨rfl, a, rfl, ⟨a1, a2⟩, hK⟩
  refine AW.go (bs := b_Appr_isKind) [] 50 t_Appr_isKind ?_
  refine And.intro (fun h => ?_) (fun h => ?_)
  · rw [zc_lt0 a1 a2] at h
    refine And.intro (Or.inl rfl) (Or.inl ⟨rfl, ?_⟩)
    rwa [decide_eq_false (by omega)] at hK
  · rw [zc_lt0 a1 a2] at h
    refine And.intro (fun h2 => ?_) (fun h2 => ?_)
    · rw [zn_i, zc_ge a1 a2 (by omega) (by omega)] at h2
      refine And.intro (Or.inl rfl) (Or.inl ⟨rfl, ?_⟩)
      rwa [decide_eq_false (by omega)] at hK
    · rw [zn_i, zc_ge a1 a2 (by omega) (by omega)] at h2
      refine And.intro (Or.inr rfl) (Or.inl ⟨rfl, ?_⟩)
      rwa [decide_eq_true (by omega)] at hK
theorem v_isEntryKind (l : Launch) : z_V l 125 (spR 0 0 3) := by
  refine z_V.of (by decide +kernel) ?_
  rintro as σ K ⟨rfl, a, rfl, ⟨a1, a2⟩, hK⟩
  refine AW.go (bs := b_Appr_isEntryKind) [] 50 t_Appr_isEntryKind ?_
  refine And.intro (fun h => ?_) (fun h => ?_)
  · rw [zc_lt0 a1 a2] at h
    refine And.intro (Or.inl rfl) (Or.inl ⟨rfl, ?_⟩)
    rwa [decide_eq_false (by omega)] at hK
  · rw [zc_lt0 a1 a2] at h
    refine And.intro (fun h2 => ?_) (fun h2 => ?_)
    · rw [zn_i, zc_gt a1 a2 (by omega) (by omega)] at h2
      refine And.intro (Or.inl rfl) (Or.inl ⟨rfl, ?_⟩)
      rwa [decide_eq_false (by omega)] at hK
    · rw [zn_i, zc_gt a1 a2 (by omega) (by omega)] at h2
      refine And.intro (Or.inr rfl) (Or.inl ⟨rfl, ?_⟩)
      rwa [decide_eq_true (by omega)] at hK
theorem v_isWhich (l : Launch) : z_V l 126 (spR 0 0 29) := by
  refine z_V.of (by decide +kernel) ?_
  rintro as σ K ⟨rfl, a, rfl, ⟨a1, a2⟩, hK⟩
  refine AW.go (bs := b_Appr_isWhich) [] 50 t_Appr_isWhich ?_
  refine And.intro (fun h => ?_) (fun h => ?_)
  · rw [zc_lt0 a1 a2] at h
    refine And.intro (Or.inl rfl) (Or.inl ⟨rfl, ?_⟩)
    rwa [decide_eq_false (by omega)] at hK
  · rw [zc_lt0 a1 a2] at h
    refine And.intro (fun h2 => ?_) (fun h2 => ?_)
    · rw [zn_i, zc_ge a1 a2 (by omega) (by omega)] at h2
      refine And.intro (Or.inl rfl) (Or.inl ⟨rfl, ?_⟩)
      rwa [decide_eq_false (by omega)] at hK
    · rw [zn_i, zc_ge a1 a2 (by omega) (by omega)] at h2
      refine And.intro (Or.inr rfl) (Or.inl ⟨rfl, ?_⟩)
      rwa [decide_eq_true (by omega)] at hK
theorem v_isLimit (l : Launch) : z_V l 128 (spR 0 0 9999) := by
  refine z_V.of (by decide +kernel) ?_
  rintro as σ K ⟨rfl, a, rfl, ⟨a1, a2⟩, hK⟩
  refine AW.go (bs := b_Appr_isLimit) [] 50 t_Appr_isLimit ?_
  refine And.intro (fun h => ?_) (fun h => ?_)
  · rw [zc_lt0 a1 a2] at h
    refine And.intro (Or.inl rfl) (Or.inl ⟨rfl, ?_⟩)
    rwa [decide_eq_false (by omega)] at hK
  · rw [zc_lt0 a1 a2] at h
    refine And.intro (fun h2 => ?_) (fun h2 => ?_)
    · rw [zn_i, zc_gt a1 a2 (by omega) (by omega)] at h2
      refine And.intro (Or.inl rfl) (Or.inl ⟨rfl, ?_⟩)
      rwa [decide_eq_false (by omega)] at hK
    · rw [zn_i, zc_gt a1 a2 (by omega) (by omega)] at h2
      refine And.intro (Or.inr rfl) (Or.inl ⟨rfl, ?_⟩)
      rwa [decide_eq_true (by omega)] at hK
theorem v_isShelf (l : Launch) : z_V l 129 (spR 0 0 1) := by
  refine z_V.of (by decide +kernel) ?_
  rintro as σ K ⟨rfl, a, rfl, ⟨a1, a2⟩, hK⟩
  refine AW.go (bs := b_Appr_isShelf) [] 50 t_Appr_isShelf ?_
  refine And.intro (fun h => ?_) (fun h => ?_)
  · rw [zc_lt0 a1 a2] at h
    refine And.intro (Or.inl rfl) (Or.inl ⟨rfl, ?_⟩)
    rwa [decide_eq_false (by omega)] at hK
  · rw [zc_lt0 a1 a2] at h
    refine And.intro (fun h2 => ?_) (fun h2 => ?_)
    · rw [zn_i, zc_ge a1 a2 (by omega) (by omega)] at h2
      refine And.intro (Or.inl rfl) (Or.inl ⟨rfl, ?_⟩)
      rwa [decide_eq_false (by omega)] at hK
    · rw [zn_i, zc_ge a1 a2 (by omega) (by omega)] at h2
      refine And.intro (Or.inr rfl) (Or.inl ⟨rfl, ?_⟩)
      rwa [decide_eq_true (by omega)] at hK
theorem v_isAmount (l : Launch) : z_V l 127 (spR 0 1 9999) := by
  refine z_V.of (by decide +kernel) ?_
  rintro as σ K ⟨rfl, a, rfl, ⟨a1, a2⟩, hK⟩
  refine AW.go (bs := b_Appr_isAmount) [] 50 t_Appr_isAmount ?_
  refine And.intro (fun h => ?_) (fun h => ?_)
  · rw [zn_i, zc_lt a1 a2 (by omega) (by omega)] at h
    refine And.intro (Or.inl rfl) (Or.inl ⟨rfl, ?_⟩)
    rwa [decide_eq_false (by omega)] at hK
  · rw [zn_i, zc_lt a1 a2 (by omega) (by omega)] at h
    refine And.intro (fun h2 => ?_) (fun h2 => ?_)
    · rw [zn_i, zc_gt a1 a2 (by omega) (by omega)] at h2
      refine And.intro (Or.inl rfl) (Or.inl ⟨rfl, ?_⟩)
      rwa [decide_eq_false (by omega)] at hK
    · rw [zn_i, zc_gt a1 a2 (by omega) (by omega)] at h2
      refine And.intro (Or.inr rfl) (Or.inl ⟨rfl, ?_⟩)
      rwa [decide_eq_true (by omega)] at hK
def dys (a b : Int) : Bool := decide (0 ≤ a ∧ a ≤ b ∧ b ≤ 999)
def sp_areDays : Sp := sp0 1 (fun as K => ∃ a b : Int, as = [.int (iI a), .int (iI b)] ∧ ir a ∧ ir b ∧ K (some (.int (bI (dys a b)))))
theorem v_areDays (l : Launch) : z_V l 123 sp_areDays := by
  refine z_V.of (by decide +kernel) ?_
  rintro as σ K ⟨rfl, a, b, rfl, ⟨a1, a2⟩, ⟨b1, b2⟩, hK⟩
  refine AW.go (bs := b_Appr_areDays) [] 50 t_Appr_areDays ?_
  refine ⟨_, v_isDay l, by decide, rfl, a, rfl, ⟨a1, a2⟩, ?_⟩
  refine And.intro (fun h => ?_) (fun h => ?_)
  · rw [zc_beq, decide_eq_false_iff_not] at h
    refine And.intro (Or.inl rfl) (Or.inl ⟨rfl, ?_⟩)
    rwa [dys, decide_eq_false (by omega)] at hK
  · rw [zc_beq, decide_eq_false_iff_not, Classical.not_not] at h
    refine ⟨_, v_isDay l, by decide, rfl, b, rfl, ⟨b1, b2⟩, ?_⟩
    refine And.intro (fun h2 => ?_) (fun h2 => ?_)
    · rw [zc_beq, decide_eq_false_iff_not] at h2
      refine And.intro (Or.inl rfl) (Or.inl ⟨rfl, ?_⟩)
      rwa [dys, decide_eq_false (by omega)] at hK
    · rw [zc_beq, decide_eq_false_iff_not, Classical.not_not] at h2
      refine And.intro (fun h3 => ?_) (fun h3 => ?_)
      · rw [zc_gt a1 a2 b1 b2] at h3
        refine And.intro (Or.inl rfl) (Or.inl ⟨rfl, ?_⟩)
        rwa [dys, decide_eq_false (by omega)] at hK
      · rw [zc_gt a1 a2 b1 b2] at h3
        refine And.intro (Or.inr rfl) (Or.inl ⟨rfl, ?_⟩)
        rwa [dys, decide_eq_true (by omega)] at hK
def sp_isIn : Sp := sp0 0 (fun as K => ∃ m j : Nat, as = [.int (iI m), .int (iI j)] ∧ m < 2147483648 ∧ j < 31 ∧ K (some (.int (bI (m.testBit j)))))
theorem v_isIn (l : Launch) : z_V l 130 sp_isIn := by
  refine z_V.of (by decide +kernel) ?_
  rintro as σ K ⟨rfl, m, j, rfl, hm, hj, hK⟩
  refine AW.go (bs := b_Appr_isIn) [] 50 t_Appr_isIn ?_
  show _ ∧ _
  rw [show z_nn 1 0 = iI 1 from rfl, zb_bit hm hj]
  refine And.intro (fun h => ?_) (fun h => ?_)
  · rw [zc_eq0 (by split <;> omega) (by split <;> omega)] at h
    have : m.testBit j = false := by
      cases hb : m.testBit j with
      | false => rfl
      | true => rw [hb] at h; simp at h
    refine And.intro (Or.inl rfl) (Or.inl ⟨rfl, ?_⟩)
    rwa [this] at hK
  · rw [zc_eq0 (by split <;> omega) (by split <;> omega)] at h
    have : m.testBit j = true := by
      cases hb : m.testBit j with
      | true => rfl
      | false => rw [hb] at h; simp at h
    refine And.intro (Or.inr rfl) (Or.inl ⟨rfl, ?_⟩)
    rwa [this] at hK
def bitI (p : Int) : Nat := if 0 ≤ p ∧ p ≤ 15 then 2 ^ p.toNat else 0
theorem bitI_lt (p : Int) : bitI p < 65536 := by
  unfold bitI
  split
  · have : 2 ^ p.toNat < 2 ^ 16 := Nat.pow_lt_pow_right (by decide) (by omega)
    exact this
  · decide
theorem bitI_test (p : Int) (i : Nat) (hi : i < 16) : (bitI p).testBit i = decide (p = (i : Int)) := by
  unfold bitI
  split
  · rw [Nat.testBit_two_pow, decide_eq_decide]; omega
  · rw [Nat.zero_testBit, eq_comm, decide_eq_false_iff_not]; omega
def sp_bitOf : Sp := sp0 1 (fun as K => ∃ p : Int, as = [.int (iI p)] ∧ ir p ∧ K (some (.int (iI (bitI p : Nat)))))
theorem v_bitOf (l : Launch) : z_V l 131 sp_bitOf := by
  refine z_V.of (by decide +kernel) ?_
  rintro as σ K ⟨rfl, p, rfl, ⟨a1, a2⟩, hK⟩
  refine AW.go (bs := b_Appr_bitOf) [] 50 t_Appr_bitOf ?_
  refine ⟨_, v_isPerson l, by decide, rfl, p, rfl, ⟨a1, a2⟩, ?_⟩
  refine And.intro (fun h => ?_) (fun h => ?_)
  · rw [zc_beq, decide_eq_false_iff_not] at h
    refine Or.inl ⟨rfl, ?_⟩
    rwa [bitI, if_neg h] at hK
  · rw [zc_beq, decide_eq_false_iff_not, Classical.not_not] at h
    refine Or.inl ⟨rfl, ?_⟩
    rw [bitI, if_pos h] at hK
    have := zb_shl p.toNat (by omega)
    rw [Int.toNat_of_nonneg h.1] at this
    rw [show z_nn 1 0 = iI 1 from rfl, this]
    exact hK
