/-! the tape -/
def wT (tb : Nat → Int32) (tz : Int32) : List AE := [.inr (.inr (7, [.ref 1, .int tz])), .inl (1, 400, tb)]
def pT : List (Nat × List Nat) := [(0, []), (0, [0])]
/-- the byte j of four, as it is stored -/
def bt (a : Int32) (j : Nat) : Int32 := vp_nar .byte ((a >>> (iI (24 - 8 * (j : Int)) &&& 31)).toInt8.toInt32)
def sp_add : Sp := (0, 0, 0, pT, fun as σ K => ∃ (tb : Nat → Int32) (n : Nat) (a : Int32), as = [.ref 0, .int a] ∧ σ = wT tb (iI n) ∧ n + 4 ≤ 400 ∧ ∀ tb', (∀ i, i < n → tb' i = tb i) → (∀ j, j < 4 → tb' (n + j) = bt a j) → K none (some (wT tb' (iI (n + 4 : Nat)))))
set_option maxRecDepth 20000 in
theorem v_add (l : Launch) : z_V l 69 sp_add := by
  refine z_V.ofP (by decide +kernel) ?_
  rintro as σ K Post ⟨tb, n, a, rfl, rfl, hn, hK⟩ hP1 hP0
  have loop : ∀ (q k : Nat) (x : Int32) (tb' : Nat → Int32) (z : Int32), q = 4 - k → k ≤ 4 → x = iI (24 - 8 * (k : Int)) → z = iI (n + k : Nat) → (∀ i, i < n → tb' i = tb i) → (∀ j, j < k → tb' (n + j) = bt a j) →
      AW l 69 0 0 0 2 none Post 3 [some (.ref 0), some (.int a), some (.int x)] [] (wT tb' z) 0 0 := by
    intro q
    induction q using Nat.strongRecOn with
    | ind q ih =>
      intro k x tb' z hq hk hx hz h1 h2
      subst hx; subst hz
      refine AW.go (bs := b_Tape_add) [3] 60 t_Tape_add ?_
      refine And.intro (fun h => ?_) (fun h => ?_)
      · rw [zc_lt0 (by omega) (by omega)] at h
        have : k = 4 := by omega
        subst this
        exact hP1 _ _ (hK tb' h1 h2)
      · rw [zc_lt0 (by omega) (by omega)] at h
        refine And.intro (fun h3 => ?_) (fun h3 => ?_)
        · rw [zn_i, zc_ge (by omega) (by omega) (by omega) (by omega)] at h3; omega
        · refine And.intro (zN_in (by omega) (by omega)) ?_
          show AW _ _ _ _ _ _ _ _ _ _ _ _ _ _
          rw [zN_cl (by omega)]
          refine ih _ (by omega) (k + 1) _ _ _ rfl (by omega) (by rw [zn_m, iI_add]; congr 1; omega) (zn_inc _) (fun i hi => ?_) (fun j hj => ?_)
          · unfold upd; rw [if_neg (by omega)]; exact h1 i hi
          · unfold upd
            by_cases e : j = k
            · rw [if_pos (by omega), e]; rfl
            · rw [if_neg (by omega)]; exact h2 j (by omega)
  refine AW.go (bs := b_Tape_add) [3] 60 t_Tape_add ?_
  exact loop _ 0 _ _ _ rfl (by omega) rfl rfl (fun _ _ => rfl) (fun j hj => by omega)
/-- the byte at a place; -1 behind the last -/
def byI (n : Nat) (B : Nat → Int32) (i : Int) : Int := if 0 ≤ i ∧ i < n then (B i.toNat &&& 255).toInt else -1
theorem and255 (x : Int32) : 0 ≤ (x &&& 255).toInt ∧ (x &&& 255).toInt ≤ 255 := by
  have e : (x &&& 255).toBitVec = x.toBitVec &&& 255#32 := rfl
  have h1 : (x &&& 255).toBitVec.toNat ≤ 255 := by
    rw [e, BitVec.toNat_and]; exact Nat.and_le_right
  have h2 : (x &&& 255).toInt = ((x &&& 255).toBitVec.toNat : Int) := by
    show (x &&& 255).toBitVec.toInt = _
    rw [BitVec.toInt_eq_toNat_cond, if_pos (by omega)]
  omega
theorem byI_rng (n : Nat) (B : Nat → Int32) (i : Int) : -1 ≤ byI n B i ∧ byI n B i ≤ 255 := by
  unfold byI
  split
  · have := and255 (B i.toNat); omega
  · omega
theorem byI_iI (x : Int32) : x &&& z_nn 255 0 = iI (x &&& 255).toInt := by
  show x &&& 255 = Int32.ofInt _
  rw [Int32.ofInt_toInt]
def sp_byteAt : Sp := (0, 0, 0, pT, fun as σ K => ∃ (tb B : Nat → Int32) (n : Nat) (i : Int), as = [.ref 0, .int (iI i)] ∧ σ = wT tb (iI n) ∧ n ≤ 400 ∧ ir i ∧ (∀ i, i < n → tb i = B i) ∧ K (some (.int (iI (byI n B i)))) none)
set_option maxRecDepth 20000 in
theorem v_byteAt (l : Launch) : z_V l 70 sp_byteAt := by
  refine z_V.ofP (by decide +kernel) ?_
  rintro as σ K Post ⟨tb, B, n, i, rfl, rfl, hn, ⟨i1, i2⟩, hB, hK⟩ hP1 hP0
  unfold byI at hK
  refine AW.go (bs := b_Tape_byteAt) [] 60 t_Tape_byteAt ?_
  refine And.intro (fun h => ?_) (fun h => ?_)
  · rw [zc_lt0 i1 i2] at h
    rw [if_neg (by omega)] at hK
    exact hP0 _ hK
  · rw [zc_lt0 i1 i2] at h
    refine And.intro (fun h2 => ?_) (fun h2 => ?_)
    · rw [zc_ge i1 i2 (by omega) (by omega)] at h2
      rw [if_neg (by omega)] at hK
      exact hP0 _ hK
    · rw [zc_ge i1 i2 (by omega) (by omega)] at h2
      rw [if_pos (by omega)] at hK
      refine And.intro ((iI_in i1 i2).mpr (by omega)) ?_
      show Post _ _
      rw [iI_cl (by omega) i2, hB _ (by omega), byI_iI]
      exact hP0 _ hK
