/-! the longest line of those who give on -/
def mxF (P : Nat → Bool) (g : Nat → Nat) : Nat → Nat
  | 0 => 0
  | n + 1 => if P n then max (mxF P g n) (g n) else mxF P g n
/-- how many are in the longest line from p on, n more at most, none of B again -/
def lnF (G : Nat → Nat) : Nat → Nat → Nat → Nat
  | 0, _, _ => 1
  | n + 1, p, B => 1 + mxF (fun q => (G p).testBit q && !B.testBit q) (fun q => lnF G n q (B ||| 2 ^ q)) 16
theorem mxF_le {P : Nat → Bool} {g : Nat → Nat} {b : Nat} (h : ∀ q, P q = true → g q ≤ b) : ∀ n, mxF P g n ≤ b
  | 0 => Nat.zero_le _
  | n + 1 => by
    have := mxF_le h n
    unfold mxF
    split
    · next e => have := h n e; omega
    · exact this
theorem lnF_le (G : Nat → Nat) : ∀ (n p B : Nat), lnF G n p B ≤ n + 1
  | 0, p, B => by simp [lnF]
  | n + 1, p, B => by
    unfold lnF
    have := mxF_le (P := fun q => (G p).testBit q && !B.testBit q) (g := fun q => lnF G n q (B ||| 2 ^ q)) (b := n + 1) (fun q _ => lnF_le G n q _) 16
    omega
def sp_lineFrom (n : Nat) : Sp := spW (10 + n) (fun G as K => ∃ (p B L : Nat), as = [.ref 0, .int (iI p), .int (iI B), .int (iI L)] ∧ p < 16 ∧ B < 65536 ∧ L + n = 16 ∧ 1 ≤ L ∧ K (some (.int (iI (L - 1 + lnF G n p B : Nat)))))
theorem v_lineFrom (l : Launch) : ∀ n, z_V l 76 (sp_lineFrom n) := by
  intro n
  induction n with
  | zero =>
    refine z_V.ofP (by decide +kernel) ?_
    rintro as σ K Post ⟨g, G, rfl, hG, p, B, L, rfl, hp, hB, hL, hL1, hK⟩ hP1 hP0
    refine AW.go (bs := b_Web_lineFrom) [] 80 t_Web_lineFrom ?_
    refine And.intro (zN_in hp (by omega)) ?_
    refine And.intro (fun h => ?_) (fun h => ?_)
    · rw [zn_i, zn_i, zc_ge (by omega) (by omega) (by omega) (by omega)] at h; omega
    · refine And.intro (fun h => ?_) (fun h => ?_)
      · refine hP0 _ ?_
        rw [lnF, show L - 1 + 1 = L by omega] at hK
        exact hK
      · rw [zn_i, zc_ge (by omega) (by omega) (by omega) (by omega)] at h; omega
  | succ n ihn =>
    refine z_V.ofP (by decide +kernel) ?_
    rintro as σ K Post ⟨g, G, rfl, hG, p, B, L, rfl, hp, hB, hL, hL1, hK⟩ hP1 hP0
    have hG2 : ∀ p, p < 16 → G p < 65536 := fun p h => (hG p h).2
    have loop : ∀ (m k : Nat) (x y : Int32), m = 16 - k → k ≤ 16 → x = iI (k : Int) → y = iI (L + mxF (fun q => (G p).testBit q && !B.testBit q) (fun q => lnF G n q (B ||| 2 ^ q)) k : Nat) →
        AW l 76 (10 + (n + 1)) 0 0 2 none Post 18 [some (.ref 0), some (.int (iI p)), some (.int (iI B)), some (.int (iI L)), some (.int y), some (.int (iI ((G p &&& (B ^^^ 65535) : Nat) : Int))), some (.int x)] [] (wW g) 0 0 := by
      intro m
      induction m using Nat.strongRecOn with
      | ind m ih =>
        intro k x y hm hk hx hy
        subst hx; subst hy
        refine AW.go (bs := b_Web_lineFrom) [18] 80 t_Web_lineFrom ?_
        refine And.intro (fun h => ?_) (fun h => ?_)
        · rw [zn_i, zc_ge (by omega) (by omega) (by omega) (by omega)] at h
          have : k = 16 := by omega
          subst this
          refine hP0 _ ?_
          rw [lnF, ← Nat.add_assoc, show L - 1 + 1 = L by omega] at hK
          exact hK
        · rw [zn_i, zc_ge (by omega) (by omega) (by omega) (by omega)] at h
          refine And.intro (fun h => ?_) (fun h => ?_)
          · rw [zn_i, zc_ge (by omega) (by omega) (by omega) (by omega)] at h; omega
          · have hlt := andn_lt (b := B) (hG2 p hp)
            refine ⟨_, v_isIn l, Nat.zero_lt_of_lt (show 9 < 10 + (n + 1) by omega), rfl, G p &&& (B ^^^ 65535), k, rfl, by omega, by omega, ?_⟩
            rw [andn_test (hG2 p hp)]
            refine And.intro (fun h8 => ?_) (fun h8 => ?_)
            · rw [zc_beq] at h8
              refine ih _ (by omega) (k + 1) _ _ rfl (by omega) (zn_inc k) ?_
              rw [mxF, if_neg (by rw [h8]; decide)]
            · rw [zc_beq, Bool.not_eq_false] at h8
              have hk16 : k < 16 := by omega
              have hle := lnF_le G n k (B ||| 2 ^ k)
              have hmx := mxF_le (P := fun q => (G p).testBit q && !B.testBit q) (g := fun q => lnF G n q (B ||| 2 ^ q)) (b := n + 1) (fun q _ => lnF_le G n q _) k
              show ∃ sp : Sp, _
              rw [show z_nn 1 0 = iI 1 from rfl, zb_shl k (by omega), zb_or, iI_add]
              refine ⟨_, ihn, (show 10 + n < 10 + (n + 1) by omega), g, G, rfl, hG, k, B ||| 2 ^ k, L + 1, rfl, hk16, zb_lt hB hk16, by omega, by omega, ?_⟩
              show AW _ _ _ _ _ _ _ _ _ _ _ _ _ _
              rw [max_iI (by omega) (by omega) (by omega) (by omega)]
              refine ih _ (by omega) (k + 1) _ _ rfl (by omega) (zn_inc k) ?_
              rw [mxF, if_pos h8]
              congr 1
              omega
    refine AW.go (bs := b_Web_lineFrom) [18] 80 t_Web_lineFrom ?_
    refine And.intro (zN_in hp (by omega)) ?_
    show AW _ _ _ _ _ _ _ _ _ _ _ _ _ _
    rw [zN_cl (by omega), (hG p hp).1, zb_andn (hG2 p hp) hB]
    exact loop _ 0 _ _ rfl (by omega) rfl rfl
def tgF (G : Nat → Nat) : Nat := mxF (fun p => decide (G p ≠ 0)) (fun p => lnF G 15 p (2 ^ p)) 16
def sp_longestLine : Sp := spW 26 (fun G as K => as = [.ref 0] ∧ K (some (.int (iI (tgF G : Nat)))))
theorem v_longestLine (l : Launch) : z_V l 75 sp_longestLine := by
  refine z_V.ofP (by decide +kernel) ?_
  rintro as σ K Post ⟨g, G, rfl, hG, rfl, hK⟩ hP1 hP0
  have hG2 : ∀ p, p < 16 → G p < 65536 := fun p h => (hG p h).2
  have loop : ∀ (n k : Nat) (x y : Int32), n = 16 - k → k ≤ 16 → x = iI (k : Int) → y = iI (mxF (fun p => decide (G p ≠ 0)) (fun p => lnF G 15 p (2 ^ p)) k : Nat) →
      AW l 75 26 0 0 2 none Post 4 [some (.ref 0), some (.int y), some (.int x)] [] (wW g) 0 0 := by
    intro n
    induction n using Nat.strongRecOn with
    | ind n ih =>
      intro k x y hn hk hx hy
      subst hx; subst hy
      refine AW.go (bs := b_Web_longestLine) [4] 60 t_Web_longestLine ?_
      refine And.intro (fun h => ?_) (fun h => ?_)
      · rw [zn_i, zc_ge (by omega) (by omega) (by omega) (by omega)] at h
        have : k = 16 := by omega
        subst this
        exact hP0 _ hK
      · rw [zn_i, zc_ge (by omega) (by omega) (by omega) (by omega)] at h
        have hk16 : k < 16 := by omega
        have hgk := hG2 k hk16
        refine And.intro (zN_in (by omega) (by omega)) ?_
        show _ ∧ _
        rw [zN_cl (by omega), (hG k hk16).1]
        refine And.intro (fun h8 => ?_) (fun h8 => ?_)
        · rw [zc_eq0 (by omega) (by omega)] at h8
          refine ih _ (by omega) (k + 1) _ _ rfl (by omega) (zn_inc k) ?_
          rw [mxF, decide_eq_false (by omega)]; rfl
        · rw [zc_eq0 (by omega) (by omega)] at h8
          have hle := lnF_le G 15 k (2 ^ k)
          have hmx := mxF_le (P := fun p => decide (G p ≠ 0)) (g := fun p => lnF G 15 p (2 ^ p)) (b := 16) (fun q _ => lnF_le G 15 q _) k
          have hpow : 2 ^ k < 2 ^ 16 := Nat.pow_lt_pow_right (by decide) hk16
          show ∃ sp : Sp, _
          rw [show z_nn 1 0 = iI 1 from rfl, zb_shl k (by omega)]
          refine ⟨_, v_lineFrom l 15, by decide, g, G, rfl, hG, k, 2 ^ k, 1, rfl, hk16, by omega, by omega, by omega, ?_⟩
          show AW _ _ _ _ _ _ _ _ _ _ _ _ _ _
          rw [max_iI (by omega) (by omega) (by omega) (by omega)]
          refine ih _ (by omega) (k + 1) _ _ rfl (by omega) (zn_inc k) ?_
          rw [mxF, decide_eq_true (by omega), if_pos rfl]
          congr 1
          omega
  refine AW.go (bs := b_Web_longestLine) [4] 60 t_Web_longestLine ?_
  exact loop _ 0 _ _ rfl (by omega) rfl rfl
