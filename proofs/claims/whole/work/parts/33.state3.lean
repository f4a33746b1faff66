theorem OKM.per {M : Od} (h : OKM M) {k : Nat} (hk : k < M.1 1) : ∃ p : Nat, p < 16 ∧ M.2.1 1 k 0 = (p : Int) := ⟨(M.2.1 1 k 0).toNat, by have := h.2.1 k hk; omega, by have := h.2.1 k hk; omega⟩
theorem OKM.foep {M : Od} (h : OKM M) {k : Nat} (hk : k < M.1 3) : ∃ p : Nat, p < 16 ∧ M.2.1 3 k 0 = (p : Int) := ⟨(M.2.1 3 k 0).toNat, by have := h.2.2.2.1 k hk; omega, by have := h.2.2.2.1 k hk; omega⟩
def aw1 (M : Od) (lo day : Int) (k : Nat) : Bool := decide ((k : Int) ≠ lo) && cov M 1 k day
def awayM (M : Od) (lo day : Int) (n : Nat) : Nat := bitsF (aw1 M lo day) (fun k => (M.2.1 1 k 0).toNat) n
theorem awayM_lt {M : Od} (h : OKM M) {lo day : Int} {n : Nat} (hn : n ≤ M.1 1) : awayM M lo day n < 65536 := by
  refine bitsF_lt (w := 16) (fun k hk _ => ?_)
  obtain ⟨p, h1, h2⟩ := h.per (k := k) (by omega)
  simp only [h2]; omega
def sp_awayBits : Sp := spS 1 (fun f s t as K => ∃ (M : Od) (day lo : Int), as = [.ref 0, .int (iI day), .int (iI lo)] ∧ RS f s t M ∧ OKM M ∧ ir day ∧ ir lo ∧ K (some (.int (iI (awayM M lo day (M.1 1))))))
theorem v_awayBits (l : Launch) : z_V l 62 sp_awayBits := by
  refine z_V.of (by decide +kernel) ?_
  rintro as σ K ⟨f, s, t, rfl, M, day, lo, rfl, hR, hO, hdy, ⟨l1, l2⟩, hK⟩
  have hs := hR.size 1 (by omega)
  have hm := hR.max40 1 (by omega)
  have loop : ∀ (n k : Nat) (x y : Int32), n = M.1 1 - k → k ≤ M.1 1 → x = iI (k : Int) → y = iI ((awayM M lo day k : Nat) : Int) → AW l 62 1 0 0 4 none (fun r σ' => (σ' = wS f s t ∧ K r none) ∨ K r (some σ')) 5 [some (.ref 0), some (.int (iI day)), some (.int (iI lo)), some (.int y), some (.int x)] [] (wS f s t) 0 0 := by
    intro n
    induction n using Nat.strongRecOn with
    | ind n ih =>
      intro k x y hn h2 hx hy
      subst hx; subst hy
      refine AW.go (bs := b_State_awayBits) [5] 60 t_State_awayBits ?_
      refine And.intro (zn_in (by omega) (by omega)) ?_
      refine And.intro (fun h => ?_) (fun h => ?_)
      · rw [zn_cl (by omega), hs, zc_ge (by omega) (by omega) (by omega) (by omega)] at h
        refine Or.inl ⟨rfl, ?_⟩
        rw [show k = M.1 1 by omega]
        exact hK
      · rw [zn_cl (by omega), hs, zc_ge (by omega) (by omega) (by omega) (by omega)] at h
        have hk : k < M.1 1 := by omega
        have skip : aw1 M lo day k = false → awayM M lo day (k + 1) = awayM M lo day k := by
          intro h0; unfold awayM; rw [bitsF, h0]; rfl
        refine And.intro (fun h3 => ?_) (fun h3 => ?_)
        · rw [zc_eq (by omega) (by omega) l1 l2] at h3
          exact ih _ (by omega) (k + 1) _ _ rfl (by omega) (zn_inc k) (by rw [skip (by rw [aw1, decide_eq_false (by omega), Bool.false_and])])
        · rw [zc_eq (by omega) (by omega) l1 l2] at h3
          refine ⟨_, v_covers l, by decide, f, s, t, rfl, M, 1, k, day, rfl, hR, hO, by omega, hk, hdy, ?_⟩
          refine And.intro (fun h4 => ?_) (fun h4 => ?_)
          · rw [zc_beq] at h4
            exact ih _ (by omega) (k + 1) _ _ rfl (by omega) (zn_inc k) (by rw [skip (by rw [aw1, h4, Bool.and_false])])
          · rw [zc_beq] at h4
            obtain ⟨p, hp1, hp2⟩ := hO.per hk
            refine ⟨_, v_cell l, by decide, f, s, t, rfl, M, 1, k, 0, rfl, hR, by omega, hk, by decide, ?_⟩
            refine ih _ (by omega) (k + 1) _ _ rfl (by omega) (zn_inc k) ?_
            show iI _ ||| iI 1 <<< (iI (M.2.1 1 k 0) &&& 31) = _
            rw [hp2, zb_shl p (by omega), zb_or]
            congr 2
            unfold awayM
            rw [bitsF, aw1, decide_eq_true (by omega), Bool.true_and, if_pos (by simpa using h4), hp2]
            rfl
  refine AW.go (bs := b_State_awayBits) [5] 60 t_State_awayBits ?_
  exact loop _ 0 _ _ rfl (by omega) rfl rfl
def foe1 (M : Od) (v : Int) (k : Nat) : Bool := decide (M.2.1 3 k 1 = v)
def foeM (M : Od) (v : Int) (n : Nat) : Nat := bitsF (foe1 M v) (fun k => (M.2.1 3 k 0).toNat) n
theorem foeM_lt {M : Od} (h : OKM M) {v : Int} {n : Nat} (hn : n ≤ M.1 3) : foeM M v n < 65536 := by
  refine bitsF_lt (w := 16) (fun k hk _ => ?_)
  obtain ⟨p, h1, h2⟩ := h.foep (k := k) (by omega)
  simp only [h2]; omega
def sp_foeBits : Sp := spS 1 (fun f s t as K => ∃ (M : Od) (v : Int), as = [.ref 0, .int (iI v)] ∧ RS f s t M ∧ OKM M ∧ ir v ∧ K (some (.int (iI (foeM M v (M.1 3))))))
theorem v_foeBits (l : Launch) : z_V l 63 sp_foeBits := by
  refine z_V.of (by decide +kernel) ?_
  rintro as σ K ⟨f, s, t, rfl, M, v, rfl, hR, hO, ⟨l1, l2⟩, hK⟩
  have hs := hR.size 3 (by omega)
  have hm := hR.max40 3 (by omega)
  have loop : ∀ (n k : Nat) (x y : Int32), n = M.1 3 - k → k ≤ M.1 3 → x = iI (k : Int) → y = iI ((foeM M v k : Nat) : Int) → AW l 63 1 0 0 4 none (fun r σ' => (σ' = wS f s t ∧ K r none) ∨ K r (some σ')) 4 [some (.ref 0), some (.int (iI v)), some (.int y), some (.int x)] [] (wS f s t) 0 0 := by
    intro n
    induction n using Nat.strongRecOn with
    | ind n ih =>
      intro k x y hn h2 hx hy
      subst hx; subst hy
      refine AW.go (bs := b_State_foeBits) [4] 60 t_State_foeBits ?_
      refine And.intro (zn_in (by omega) (by omega)) ?_
      refine And.intro (fun h => ?_) (fun h => ?_)
      · rw [zn_cl (by omega), hs, zc_ge (by omega) (by omega) (by omega) (by omega)] at h
        refine Or.inl ⟨rfl, ?_⟩
        rw [show k = M.1 3 by omega]
        exact hK
      · rw [zn_cl (by omega), hs, zc_ge (by omega) (by omega) (by omega) (by omega)] at h
        have hk : k < M.1 3 := by omega
        have c1 := hO.cell (by omega : 3 < 6) hk (by decide : 1 < oW 3)
        refine ⟨_, v_cell l, by decide, f, s, t, rfl, M, 3, k, 1, rfl, hR, by omega, hk, by decide, ?_⟩
        refine And.intro (fun h3 => ?_) (fun h3 => ?_)
        · rw [zc_ne (by omega) (by omega) l1 l2] at h3
          refine ih _ (by omega) (k + 1) _ _ rfl (by omega) (zn_inc k) ?_
          unfold foeM
          rw [bitsF, foe1, decide_eq_false (by omega)]
          rfl
        · rw [zc_ne (by omega) (by omega) l1 l2] at h3
          obtain ⟨p, hp1, hp2⟩ := hO.foep hk
          refine ⟨_, v_cell l, by decide, f, s, t, rfl, M, 3, k, 0, rfl, hR, by omega, hk, by decide, ?_⟩
          refine ih _ (by omega) (k + 1) _ _ rfl (by omega) (zn_inc k) ?_
          show iI _ ||| iI 1 <<< (iI (M.2.1 3 k 0) &&& 31) = _
          rw [hp2, zb_shl p (by omega), zb_or]
          congr 2
          unfold foeM
          rw [bitsF, foe1, decide_eq_true (by omega), if_pos rfl, hp2]
          rfl
  refine AW.go (bs := b_State_foeBits) [4] 60 t_State_foeBits ?_
  exact loop _ 0 _ _ rfl (by omega) rfl rfl
/-- how many posts lie above, from u on -/
def upN (M : Od) : Nat → Int → Nat
  | 0, _ => 0
  | n + 1, u => if 0 ≤ u ∧ u < M.1 4 then 1 + upN M n (M.2.1 4 u.toNat 0) else 0
theorem upN_le (M : Od) : ∀ (n : Nat) (u : Int), upN M n u ≤ n
  | 0, _ => Nat.le_refl 0
  | n + 1, u => by
    unfold upN
    split
    · have := upN_le M n (M.2.1 4 u.toNat 0); omega
    · omega
def sp_postsAbove : Sp := spS 1 (fun f s t as K => ∃ (M : Od) (p : Nat), as = [.ref 0, .int (iI p)] ∧ RS f s t M ∧ OKM M ∧ p < M.1 4 ∧ K (some (.int (iI (upN M 12 (M.2.1 4 p 0) : Nat)))))
theorem v_postsAbove (l : Launch) : z_V l 58 sp_postsAbove := by
  refine z_V.of (by decide +kernel) ?_
  rintro as σ K ⟨f, s, t, rfl, M, p, rfl, hR, hO, hp, hK⟩
  have hm := hR.max40 4 (by omega)
  have loop : ∀ (n a : Nat) (u : Int) (x y : Int32), a + n = 12 → x = iI u → -2 ≤ u ∧ u ≤ 9999 → y = iI (a : Int) → a + upN M n u = upN M 12 (M.2.1 4 p 0) → AW l 58 1 0 0 4 none (fun r σ' => (σ' = wS f s t ∧ K r none) ∨ K r (some σ')) 10 [some (.ref 0), some (.int (iI p)), some (.int y), some (.int x)] [] (wS f s t) 0 0 := by
    intro n
    induction n with
    | zero =>
      intro a u x y ha hx hu hy hv
      subst hx; subst hy
      refine AW.go (bs := b_State_postsAbove) [10] 60 t_State_postsAbove ?_
      refine ⟨_, v_has l, by decide, f, s, t, rfl, M, 4, u, rfl, hR, by omega, ⟨by omega, by omega⟩, ?_⟩
      refine And.intro (fun h => ?_) (fun h => ?_)
      · refine Or.inl ⟨rfl, ?_⟩
        rw [upN, Nat.add_zero] at hv
        rw [hv]; exact hK
      · refine And.intro (fun h => ?_) (fun h => ?_)
        · refine Or.inl ⟨rfl, ?_⟩
          rw [upN, Nat.add_zero] at hv
          rw [hv]; exact hK
        · rw [show z_nn 12 0 = iI 12 from rfl, zc_ge (by omega) (by omega) (by omega) (by omega)] at h
          omega
    | succ n ih =>
      intro a u x y ha hx hu hy hv
      subst hx; subst hy
      refine AW.go (bs := b_State_postsAbove) [10] 60 t_State_postsAbove ?_
      refine ⟨_, v_has l, by decide, f, s, t, rfl, M, 4, u, rfl, hR, by omega, ⟨by omega, by omega⟩, ?_⟩
      refine And.intro (fun h => ?_) (fun h => ?_)
      · rw [zc_beq, decide_eq_false_iff_not] at h
        refine Or.inl ⟨rfl, ?_⟩
        rw [upN, if_neg h, Nat.add_zero] at hv
        rw [hv]; exact hK
      · rw [zc_beq, decide_eq_false_iff_not, Classical.not_not] at h
        obtain ⟨q, hq⟩ : ∃ q : Nat, u = (q : Int) := ⟨u.toNat, by omega⟩
        subst hq
        have hq4 : q < M.1 4 := by omega
        refine And.intro (fun h2 => ?_) (fun h2 => ?_)
        · rw [show z_nn 12 0 = iI 12 from rfl, zc_ge (by omega) (by omega) (by omega) (by omega)] at h2
          omega
        · have c1 := hO.cell (by omega : 4 < 6) hq4 (by decide : 0 < oW 4)
          refine ⟨_, v_cell l, by decide, f, s, t, rfl, M, 4, q, 0, rfl, hR, by omega, hq4, by decide, ?_⟩
          refine ih (a + 1) (M.2.1 4 q 0) _ _ (by omega) rfl (by omega) (zn_inc a) ?_
          rw [upN, if_pos h, Int.toNat_natCast] at hv
          omega
  refine AW.go (bs := b_State_postsAbove) [10] 60 t_State_postsAbove ?_
  have c1 := hO.cell (by omega : 4 < 6) hp (by decide : 0 < oW 4)
  refine ⟨_, v_cell l, by decide, f, s, t, rfl, M, 4, p, 0, rfl, hR, by omega, hp, by decide, ?_⟩
  exact loop 12 0 _ _ _ rfl rfl (by omega) rfl (by omega)
/-- how many of the first n have it -/
def cntF (P : Nat → Bool) : Nat → Nat
  | 0 => 0
  | n + 1 => if P n then cntF P n + 1 else cntF P n
theorem cntF_le (P : Nat → Bool) : ∀ n, cntF P n ≤ n
  | 0 => Nat.le_refl 0
  | n + 1 => by have := cntF_le P n; unfold cntF; split <;> omega
def sp_postsBelow : Sp := spS 1 (fun f s t as K => ∃ (M : Od) (p : Nat), as = [.ref 0, .int (iI p)] ∧ RS f s t M ∧ OKM M ∧ p < M.1 4 ∧ K (some (.int (iI (cntF (fun k => decide (M.2.1 4 k 0 = p)) (M.1 4) : Nat)))))
theorem v_postsBelow (l : Launch) : z_V l 59 sp_postsBelow := by
  refine z_V.of (by decide +kernel) ?_
  rintro as σ K ⟨f, s, t, rfl, M, p, rfl, hR, hO, hp, hK⟩
  have hs := hR.size 4 (by omega)
  have hm := hR.max40 4 (by omega)
  have loop : ∀ (n k : Nat) (x y : Int32), n = M.1 4 - k → k ≤ M.1 4 → x = iI (k : Int) → y = iI ((cntF (fun k => decide (M.2.1 4 k 0 = p)) k : Nat) : Int) → AW l 59 1 0 0 4 none (fun r σ' => (σ' = wS f s t ∧ K r none) ∨ K r (some σ')) 4 [some (.ref 0), some (.int (iI p)), some (.int y), some (.int x)] [] (wS f s t) 0 0 := by
    intro n
    induction n using Nat.strongRecOn with
    | ind n ih =>
      intro k x y hn h2 hx hy
      subst hx; subst hy
      refine AW.go (bs := b_State_postsBelow) [4] 60 t_State_postsBelow ?_
      refine And.intro (zn_in (by omega) (by omega)) ?_
      refine And.intro (fun h => ?_) (fun h => ?_)
      · rw [zn_cl (by omega), hs, zc_ge (by omega) (by omega) (by omega) (by omega)] at h
        refine Or.inl ⟨rfl, ?_⟩
        rw [show k = M.1 4 by omega]
        exact hK
      · rw [zn_cl (by omega), hs, zc_ge (by omega) (by omega) (by omega) (by omega)] at h
        have hk : k < M.1 4 := by omega
        have c1 := hO.cell (by omega : 4 < 6) hk (by decide : 0 < oW 4)
        refine ⟨_, v_cell l, by decide, f, s, t, rfl, M, 4, k, 0, rfl, hR, by omega, hk, by decide, ?_⟩
        refine And.intro (fun h3 => ?_) (fun h3 => ?_)
        · rw [zc_ne (by omega) (by omega) (by omega) (by omega)] at h3
          refine ih _ (by omega) (k + 1) _ _ rfl (by omega) (zn_inc k) ?_
          rw [cntF, if_neg (by simpa using h3)]
        · rw [zc_ne (by omega) (by omega) (by omega) (by omega), Classical.not_not] at h3
          refine ih _ (by omega) (k + 1) _ _ rfl (by omega) (zn_inc k) ?_
          rw [cntF, if_pos (by simpa using h3)]
          exact zn_inc _
  refine AW.go (bs := b_State_postsBelow) [4] 60 t_State_postsBelow ?_
  exact loop _ 0 _ _ rfl (by omega) rfl rfl
