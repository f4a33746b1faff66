theorem mxF_iff {P : Nat → Bool} {g : Nat → Nat} {b : Nat} : ∀ {n : Nat}, mxF P g n ≤ b ↔ ∀ k, k < n → P k = true → g k ≤ b
  | 0 => by simp [mxF]
  | n + 1 => by
    have ih := mxF_iff (P := P) (g := g) (b := b) (n := n)
    unfold mxF
    constructor
    · intro h k hk hp
      rcases Nat.lt_or_ge k n with q | q
      · split at h
        · exact ih.mp (by omega) k q hp
        · exact ih.mp h k q hp
      · have : k = n := by omega
        subst this
        rw [if_pos hp] at h
        omega
    · intro h
      have h1 := ih.mpr (fun k hk => h k (by omega))
      split
      · next e => have := h n (by omega) e; omega
      · exact h1
theorem mxF_eq {P P' : Nat → Bool} {g g' : Nat → Nat} {n n' : Nat} (h1 : ∀ k, k < n → P k = true → ∃ j, j < n' ∧ P' j = true ∧ g' j = g k) (h2 : ∀ j, j < n' → P' j = true → ∃ k, k < n ∧ P k = true ∧ g k = g' j) : mxF P g n = mxF P' g' n' := by
  apply Nat.le_antisymm
  · rw [mxF_iff]
    intro k hk hp
    obtain ⟨j, j1, j2, j3⟩ := h1 k hk hp
    rw [← j3]
    exact mxF_iff.mp (Nat.le_refl _) j j1 j2
  · rw [mxF_iff]
    intro j hj hp
    obtain ⟨k, k1, k2, k3⟩ := h2 j hj hp
    rw [← k3]
    exact mxF_iff.mp (Nat.le_refl _) k k1 k2
def lnP (M : Od) (y : Int) (p B k : Nat) : Bool := gv1 M p y k && !B.testBit (tk M k)
theorem lnF_model {M : Od} (hO : OKM M) (y : Int) (n p B : Nat) : lnF (gvM M y) (n + 1) p B = 1 + mxF (lnP M y p B) (fun k => lnF (gvM M y) n (tk M k) (B ||| 2 ^ tk M k)) (M.1 2) := by
  rw [lnF]
  congr 1
  refine mxF_eq (fun q hq h => ?_) (fun k hk h => ?_)
  · rw [Bool.and_eq_true, gvM_test] at h
    obtain ⟨⟨k, k1, k2, k3, k4⟩, h5⟩ := h
    refine ⟨k, k1, ?_, by rw [k4]⟩
    unfold lnP gv1
    rw [k4, k3, decide_eq_true k2, h5]; rfl
  · unfold lnP at h
    rw [Bool.and_eq_true] at h
    refine ⟨tk M k, (hO.tk hk).2, ?_, rfl⟩
    have h1 := h.1
    unfold gv1 at h1
    rw [Bool.and_eq_true, decide_eq_true_iff] at h1
    rw [Bool.and_eq_true, gvM_test]
    exact ⟨⟨k, hk, h1.1, h1.2, rfl⟩, h.2⟩
def sp_mlineFrom (n : Nat) : Sp := spN (10 + n) (fun M _ _ _ _ _ as K => ∃ (p B : Nat) (y : Int), as = [.ref 0, .int (iI p), .int (iI B), .int (iI y)] ∧ p < 16 ∧ B < 65536 ∧ 16 ≤ n + cntF B.testBit 16 ∧ ir y ∧ K (some (.int (iI (lnF (gvM M y) n p B : Nat)))))
set_option maxRecDepth 20000 in
theorem v_mlineFrom (l : Launch) : ∀ n, n ≤ 16 → z_V l 261 (sp_mlineFrom n) := by
  intro n
  induction n with
  | zero =>
    intro _
    refine z_V.ofP (by decide +kernel) ?_
    rintro as σ K Post ⟨now, was, kept, isk, ln, sp, ls, ld, tb, rd, und, gon, lef, ak, vn, dy, asd, lma, lim, rea, sts, apr, tz, spo, wro, num, nuA, stl, spe, wan, fou, M, rfl, hN, hO, p, B, y, rfl, hp, hB, hcnt, ⟨y1, y2⟩, hK⟩ hP1 hP0
    have hx := hO.mx 2 (by omega)
    have hfull : ∀ i, i < 16 → B.testBit i = true := cntF_full (by omega)
    have loop : ∀ (q k : Nat) (x5 : Int32) (v6 v7 : Option Value), q = M.1 2 - k → k ≤ M.1 2 → x5 = iI (k : Int) →
        AW l 261 10 0 0 11 none Post 6 [some (.ref 0), some (.int (iI p)), some (.int (iI B)), some (.int (iI y)), some (.int (z_nn 0 0)), some (.int x5), v6, v7] [] (wMd now was kept isk ln sp ls ld tb rd und gon lef ak vn dy asd lma lim rea sts apr tz spo wro num nuA stl spe wan fou) 0 0 := by
      intro q
      induction q using Nat.strongRecOn with
      | ind q ihq =>
        intro k x5 v6 v7 hq hk e5
        subst e5
        refine AW.go (bs := b_Mod_lineFrom) [6] 90 t_Mod_lineFrom ?_
        refine ⟨_, v_mmany l, by decide, _, _, _, _, _, _, _, _, _, _, _, _, _, _, _, _, _, _, _, _, _, _, _, _, _, _, _, _, _, _, _, M, rfl, hN, hO, 2, rfl, by omega, ?_⟩
        refine And.intro (fun h => ?_) (fun h => ?_)
        · exact hP0 _ hK
        rw [zc_ge (by omega) (by omega) (by omega) (by omega)] at h
        have hk2 : k < M.1 2 := by omega
        have c := hO.2.2.1 k hk2
        have ht := hO.tk hk2
        refine ⟨_, v_mentryOf l, by decide, _, _, _, _, _, _, _, _, _, _, _, _, _, _, _, _, _, _, _, _, _, _, _, _, _, _, _, _, _, _, _, M, rfl, hN, hO, 2, k, 1, rfl, by omega, hk2, by decide, ?_⟩
        refine ⟨_, v_mentryOf l, by decide, _, _, _, _, _, _, _, _, _, _, _, _, _, _, _, _, _, _, _, _, _, _, _, _, _, _, _, _, _, _, _, M, rfl, hN, hO, 2, k, 0, rfl, by omega, hk2, by decide, ?_⟩
        refine And.intro (fun h3 => ?_) (fun h3 => ?_)
        · exact ihq _ (by omega) (k + 1) _ _ _ rfl (by omega) (zn_inc k)
        refine ⟨_, v_mentryOf l, by decide, _, _, _, _, _, _, _, _, _, _, _, _, _, _, _, _, _, _, _, _, _, _, _, _, _, _, _, _, _, _, _, M, rfl, hN, hO, 2, k, 2, rfl, by omega, hk2, by decide, ?_⟩
        refine ⟨_, v_mentryOf l, by decide, _, _, _, _, _, _, _, _, _, _, _, _, _, _, _, _, _, _, _, _, _, _, _, _, _, _, _, _, _, _, _, M, rfl, hN, hO, 2, k, 3, rfl, by omega, hk2, by decide, ?_⟩
        refine ⟨_, v_in l, by decide, rfl, y, M.2.1 2 k 2, M.2.1 2 k 3, _, _, _, rfl, l_i y1 y2, l_i (by omega) (by omega), l_i (by omega) (by omega), ⟨by omega, by omega⟩, ⟨by omega, by omega⟩, ⟨by omega, by omega⟩, ?_⟩
        refine And.intro (fun h4 => ?_) (fun h4 => ?_)
        · exact ihq _ (by omega) (k + 1) _ _ _ rfl (by omega) (zn_inc k)
        show ∃ sp : Sp, _
        rw [ht.1]
        refine ⟨_, v_mhas l, by decide, rfl, B, tk M k, rfl, by omega, by omega, ?_⟩
        rw [hfull _ ht.2]
        refine And.symm (And.intro (fun h5 => ?_) (fun h5 => absurd h5 zt_neqt))
        exact ihq _ (by omega) (k + 1) _ _ _ rfl (by omega) (zn_inc k)
    refine AW.go (bs := b_Mod_lineFrom) [6] 90 t_Mod_lineFrom ?_
    exact loop _ 0 _ _ _ rfl (by omega) rfl
  | succ n ihn =>
    intro hn16
    have ihn := ihn (by omega)
    refine z_V.ofP (by decide +kernel) ?_
    rintro as σ K Post ⟨now, was, kept, isk, ln, sp, ls, ld, tb, rd, und, gon, lef, ak, vn, dy, asd, lma, lim, rea, sts, apr, tz, spo, wro, num, nuA, stl, spe, wan, fou, M, rfl, hN, hO, p, B, y, rfl, hp, hB, hcnt, ⟨y1, y2⟩, hK⟩ hP1 hP0
    have hx := hO.mx 2 (by omega)
    rw [lnF_model hO] at hK
    have loop : ∀ (q k : Nat) (x4 x5 : Int32) (v6 v7 : Option Value), q = M.1 2 - k → k ≤ M.1 2 → x4 = iI (mxF (lnP M y p B) (fun k => lnF (gvM M y) n (tk M k) (B ||| 2 ^ tk M k)) k : Nat) → x5 = iI (k : Int) →
        AW l 261 (10 + (n + 1)) 0 0 11 none Post 6 [some (.ref 0), some (.int (iI p)), some (.int (iI B)), some (.int (iI y)), some (.int x4), some (.int x5), v6, v7] [] (wMd now was kept isk ln sp ls ld tb rd und gon lef ak vn dy asd lma lim rea sts apr tz spo wro num nuA stl spe wan fou) 0 0 := by
      intro q
      induction q using Nat.strongRecOn with
      | ind q ihq =>
        intro k x4 x5 v6 v7 hq hk e4 e5
        subst e4; subst e5
        have hmx : mxF (lnP M y p B) (fun k => lnF (gvM M y) n (tk M k) (B ||| 2 ^ tk M k)) k ≤ n + 1 := mxF_le (fun q _ => lnF_le _ n _ _) k
        refine AW.go (bs := b_Mod_lineFrom) [6] 90 t_Mod_lineFrom ?_
        refine ⟨_, v_mmany l, by show 0 < _; omega, _, _, _, _, _, _, _, _, _, _, _, _, _, _, _, _, _, _, _, _, _, _, _, _, _, _, _, _, _, _, _, M, rfl, hN, hO, 2, rfl, by omega, ?_⟩
        refine And.intro (fun h => ?_) (fun h => ?_)
        · rw [zc_ge (by omega) (by omega) (by omega) (by omega)] at h
          have : k = M.1 2 := by omega
          subst this
          show Post _ _
          rw [zn_inc, Nat.add_comm _ 1]
          exact hP0 _ hK
        rw [zc_ge (by omega) (by omega) (by omega) (by omega)] at h
        have hk2 : k < M.1 2 := by omega
        have c := hO.2.2.1 k hk2
        have ht := hO.tk hk2
        have skip : lnP M y p B k = false → ∀ (v6 v7 : Option Value), AW l 261 (10 + (n + 1)) 0 0 11 none Post 6 [some (.ref 0), some (.int (iI p)), some (.int (iI B)), some (.int (iI y)), some (.int (iI (mxF (lnP M y p B) (fun k => lnF (gvM M y) n (tk M k) (B ||| 2 ^ tk M k)) k : Nat))), some (.int (iI (k : Int) + z_nn 1 0)), v6, v7] [] (wMd now was kept isk ln sp ls ld tb rd und gon lef ak vn dy asd lma lim rea sts apr tz spo wro num nuA stl spe wan fou) 0 0 := by
          intro e v6 v7
          exact ihq _ (by omega) (k + 1) _ _ _ _ rfl (by omega) (by rw [mxF, e]; rfl) (zn_inc k)
        refine ⟨_, v_mentryOf l, by show 1 < _; omega, _, _, _, _, _, _, _, _, _, _, _, _, _, _, _, _, _, _, _, _, _, _, _, _, _, _, _, _, _, _, _, M, rfl, hN, hO, 2, k, 1, rfl, by omega, hk2, by decide, ?_⟩
        refine ⟨_, v_mentryOf l, by show 1 < _; omega, _, _, _, _, _, _, _, _, _, _, _, _, _, _, _, _, _, _, _, _, _, _, _, _, _, _, _, _, _, _, _, M, rfl, hN, hO, 2, k, 0, rfl, by omega, hk2, by decide, ?_⟩
        refine And.intro (fun h3 => ?_) (fun h3 => ?_)
        · rw [zc_ne (by omega) (by omega) (by omega) (by omega)] at h3
          exact skip (by unfold lnP gv1; rw [decide_eq_false h3]; rfl) _ _
        rw [zc_ne (by omega) (by omega) (by omega) (by omega), Classical.not_not] at h3
        refine ⟨_, v_mentryOf l, by show 1 < _; omega, _, _, _, _, _, _, _, _, _, _, _, _, _, _, _, _, _, _, _, _, _, _, _, _, _, _, _, _, _, _, _, M, rfl, hN, hO, 2, k, 2, rfl, by omega, hk2, by decide, ?_⟩
        refine ⟨_, v_mentryOf l, by show 1 < _; omega, _, _, _, _, _, _, _, _, _, _, _, _, _, _, _, _, _, _, _, _, _, _, _, _, _, _, _, _, _, _, _, M, rfl, hN, hO, 2, k, 3, rfl, by omega, hk2, by decide, ?_⟩
        refine ⟨_, v_in l, by show 0 < _; omega, rfl, y, M.2.1 2 k 2, M.2.1 2 k 3, _, _, _, rfl, l_i y1 y2, l_i (by omega) (by omega), l_i (by omega) (by omega), ⟨by omega, by omega⟩, ⟨by omega, by omega⟩, ⟨by omega, by omega⟩, ?_⟩
        have ec : decide (M.2.1 2 k 2 ≤ y ∧ y ≤ M.2.1 2 k 3) = cov M 2 k y := by
          unfold cov; rw [Bool.decide_and]; rfl
        rw [ec]
        refine And.intro (fun h4 => ?_) (fun h4 => ?_)
        · rw [zc_beq] at h4
          exact skip (by unfold lnP gv1; rw [h4, Bool.and_false]; rfl) _ _
        rw [zc_beq, Bool.not_eq_false] at h4
        show ∃ sp : Sp, _
        rw [ht.1]
        refine ⟨_, v_mhas l, by show 0 < _; omega, rfl, B, tk M k, rfl, by omega, by omega, ?_⟩
        refine And.symm (And.intro (fun h5 => ?_) (fun h5 => ?_))
        · rw [zc_beq, Bool.not_eq_false] at h5
          exact skip (by unfold lnP; rw [h5, Bool.not_true, Bool.and_false]) _ _
        rw [zc_beq] at h5
        have hP : lnP M y p B k = true := by unfold lnP gv1; rw [h4, h5, decide_eq_true h3]; rfl
        have hcn := cntF_add (P := B.testBit) (P' := (B ||| 2 ^ tk M k).testBit) h5 (fun i => zb_test B (tk M k) i) 16
        rw [if_pos ht.2] at hcn
        have hle := lnF_le (gvM M y) n (tk M k) (B ||| 2 ^ tk M k)
        show ∃ sp : Sp, _
        rw [show z_nn 1 0 = iI 1 from rfl, zb_shl _ (by omega), zb_or]
        refine ⟨_, ihn, by show 10 + n < 10 + (n + 1); omega, _, _, _, _, _, _, _, _, _, _, _, _, _, _, _, _, _, _, _, _, _, _, _, _, _, _, _, _, _, _, _, M, rfl, hN, hO, tk M k, B ||| 2 ^ tk M k, y, rfl, ht.2, zb_lt hB ht.2, by omega, ⟨y1, y2⟩, ?_⟩
        have em : mxF (lnP M y p B) (fun k => lnF (gvM M y) n (tk M k) (B ||| 2 ^ tk M k)) (k + 1) = max (mxF (lnP M y p B) (fun k => lnF (gvM M y) n (tk M k) (B ||| 2 ^ tk M k)) k) (lnF (gvM M y) n (tk M k) (B ||| 2 ^ tk M k)) := by rw [mxF, if_pos hP]
        refine And.intro (fun h6 => ?_) (fun h6 => ?_)
        · rw [zc_le (by omega) (by omega) (by omega) (by omega)] at h6
          exact ihq _ (by omega) (k + 1) _ _ _ _ rfl (by omega) (by rw [em]; congr 1; omega) (zn_inc k)
        · rw [zc_le (by omega) (by omega) (by omega) (by omega)] at h6
          exact ihq _ (by omega) (k + 1) _ _ _ _ rfl (by omega) (by rw [em]; congr 1; omega) (zn_inc k)
    refine AW.go (bs := b_Mod_lineFrom) [6] 90 t_Mod_lineFrom ?_
    exact loop _ 0 _ _ _ _ rfl (by omega) rfl rfl
theorem tgF_model {M : Od} (hO : OKM M) (y : Int) : tgF (gvM M y) = (if mxF (fun _ => true) (fun p => lnF (gvM M y) 15 p (2 ^ p)) 16 < 2 then 0 else mxF (fun _ => true) (fun p => lnF (gvM M y) 15 p (2 ^ p)) 16) := by
  have big : ∀ p, p < 16 → gvM M y p ≠ 0 → 2 ≤ lnF (gvM M y) 15 p (2 ^ p) := by
    intro p hp h
    obtain ⟨q, hq⟩ := Nat.exists_testBit_of_ne_zero h
    obtain ⟨k, k1, k2, k3, k4⟩ := (gvM_test y p q).mp hq
    have c := hO.2.2.1 k k1
    have ht := hO.tk k1
    have hne : p ≠ q := by
      intro e
      have : M.2.1 2 k 1 = (q : Int) := by rw [ht.1, k4]
      omega
    rw [show (15 : Nat) = 14 + 1 from rfl, lnF]
    have h1 := (mxF_iff (P := fun q => (gvM M y p).testBit q && !(2 ^ p).testBit q) (g := fun q => lnF (gvM M y) 14 q (2 ^ p ||| 2 ^ q)) (n := 16)).mp (Nat.le_refl _) q (by rw [← k4]; exact ht.2) (by rw [hq, Nat.testBit_two_pow, decide_eq_false hne]; rfl)
    have h2 : 1 ≤ lnF (gvM M y) 14 q (2 ^ p ||| 2 ^ q) := by rw [show (14 : Nat) = 13 + 1 from rfl, lnF]; omega
    omega
  have small : ∀ p, gvM M y p = 0 → lnF (gvM M y) 15 p (2 ^ p) = 1 := by
    intro p h
    rw [show (15 : Nat) = 14 + 1 from rfl, lnF, h]
    have : mxF (fun q => (0 : Nat).testBit q && !(2 ^ p).testBit q) (fun q => lnF (gvM M y) 14 q (2 ^ p ||| 2 ^ q)) 16 ≤ 0 := mxF_iff.mpr (fun k _ h => by simp at h)
    omega
  have hle : tgF (gvM M y) ≤ mxF (fun _ => true) (fun p => lnF (gvM M y) 15 p (2 ^ p)) 16 := mxF_iff.mpr (fun k hk _ => (mxF_iff (P := fun _ => true) (g := fun p => lnF (gvM M y) 15 p (2 ^ p)) (n := 16)).mp (Nat.le_refl _) k hk rfl)
  by_cases hz : ∀ p, p < 16 → gvM M y p = 0
  · have h1 : mxF (fun _ => true) (fun p => lnF (gvM M y) 15 p (2 ^ p)) 16 ≤ 1 := mxF_iff.mpr (fun k hk _ => by rw [small k (hz k hk)]; exact Nat.le_refl 1)
    rw [if_pos (by omega)]
    have : tgF (gvM M y) ≤ 0 := mxF_iff.mpr (fun k hk h => absurd (hz k hk) (of_decide_eq_true h))
    omega
  · obtain ⟨p, hp, hpz⟩ : ∃ p, p < 16 ∧ gvM M y p ≠ 0 := by
      apply Classical.byContradiction
      intro hn
      exact hz (fun p hp => Classical.byContradiction (fun q => hn ⟨p, hp, q⟩))
    have tgk : ∀ p, p < 16 → gvM M y p ≠ 0 → lnF (gvM M y) 15 p (2 ^ p) ≤ tgF (gvM M y) := fun p hp h => (mxF_iff (P := fun p => decide (gvM M y p ≠ 0)) (g := fun p => lnF (gvM M y) 15 p (2 ^ p)) (n := 16)).mp (Nat.le_refl _) p hp (decide_eq_true h)
    have h2 : 2 ≤ tgF (gvM M y) := Nat.le_trans (big p hp hpz) (tgk p hp hpz)
    rw [if_neg (by omega)]
    apply Nat.le_antisymm hle
    rw [mxF_iff]
    intro k hk _
    by_cases e : gvM M y k = 0
    · rw [small k e]; omega
    · exact tgk k hk e
set_option maxRecDepth 20000 in
theorem v_mtangle (l : Launch) : z_V l 262 (m1 40 (qp q_tangle)) := by
  refine z_V.ofP (by decide +kernel) ?_
  rintro as σ K Post ⟨S, ⟨hOS, now, was, kept, isk, ln, sp, ls, ld, tb, rd, und, gon, lef, ak, vn, dy, asd, lma, lim, rea, sts, apr, tz, spo, wro, num, nuA, stl, spe, wan, fou, rfl, hMR⟩, y, rfl, ⟨y1, y2⟩, hK⟩ hP1 hP0
  obtain ⟨hN, h2_, rfl, h4_, h5_, h6_, h7_, rfl, rfl, rfl, h11_⟩ := id hMR
  have hO := hOS.1
  have hx4 := hO.2.2.2.2.2.2.2.2.2 4 (by omega)
  rw [x_4] at hx4
  have hx5 := hO.2.2.2.2.2.2.2.2.2 5 (by omega)
  rw [x_5] at hx5
  unfold qp q_tangle at hK
  simp only [] at hK
  have loop : ∀ (n k : Nat) (x2 x3 : Int32) (v4 : Option Value), (0 ≤ y ∧ y ≤ 999) → n = 16 - k → k ≤ 16 → x3 = iI (k : Int) → x2 = iI (mxF (fun _ => true) (fun p => lnF (gvM S.1 y) 15 p (2 ^ p)) k : Nat) →
      AW l 262 40 0 0 11 none Post 13 [some (.ref 0), some (.int (iI y)), some (.int x2), some (.int x3), v4] [] (wMd now was kept isk ln sp ls ld tb rd (iI S.2.1.length) (iI (-1)) (iI (-1)) ak vn dy asd lma lim rea sts apr (iI S.2.2.2.1) spo wro num nuA stl spe wan fou) 0 0 := by
    intro n
    induction n using Nat.strongRecOn with
    | ind n ih =>
      intro k x2 x3 v4 hc hn hk e3 e2
      subst e2; subst e3
      have hmx : mxF (fun _ => true) (fun p => lnF (gvM S.1 y) 15 p (2 ^ p)) k ≤ 16 := mxF_le (fun q _ => lnF_le _ 15 _ _) k
      refine AW.go (bs := b_Mod_tangle) [13] 60 t_Mod_tangle ?_
      refine And.intro (fun h => ?_) (fun h => ?_)
      · rw [zn_i, zc_ge (by omega) (by omega) (by omega) (by omega)] at h
        have : k = 16 := by omega
        subst this
        rw [if_pos hc, tgF_model hO] at hK
        refine And.symm (And.intro (fun h2 => ?_) (fun h2 => ?_))
        · rw [zn_i, zc_ge (by omega) (by omega) (by omega) (by omega)] at h2
          rw [if_pos (by omega)] at hK
          exact hP1 _ _ (hK _ (isMd.mk hOS hMR))
        · rw [zn_i, zc_ge (by omega) (by omega) (by omega) (by omega)] at h2
          rw [if_neg (by omega)] at hK
          exact hP1 _ _ (hK _ (isMd.mk hOS hMR))
      rw [zn_i, zc_ge (by omega) (by omega) (by omega) (by omega)] at h
      have hk16 : k < 16 := by omega
      have hpw : 2 ^ k < 65536 := Nat.pow_lt_pow_right (n := 16) (by decide) hk16
      have hc1 : 1 ≤ cntF (2 ^ k).testBit 16 := by
        have := cntF_add (P := (0 : Nat).testBit) (P' := (2 ^ k).testBit) (k := k) (by simp) (fun i => by rw [Nat.testBit_two_pow]; simp) 16
        rw [if_pos hk16] at this
        omega
      have hle := lnF_le (gvM S.1 y) 15 k (2 ^ k)
      show ∃ sp : Sp, _
      rw [show z_nn 1 0 = iI 1 from rfl, zb_shl k (by omega)]
      refine ⟨_, v_mlineFrom l 15 (by omega), by decide, _, _, _, _, _, _, _, _, _, _, _, _, _, _, _, _, _, _, _, _, _, _, _, _, _, _, _, _, _, _, _, S.1, rfl, hN, hO, k, 2 ^ k, y, rfl, hk16, hpw, by omega, ⟨y1, y2⟩, ?_⟩
      have em : mxF (fun _ => true) (fun p => lnF (gvM S.1 y) 15 p (2 ^ p)) (k + 1) = max (mxF (fun _ => true) (fun p => lnF (gvM S.1 y) 15 p (2 ^ p)) k) (lnF (gvM S.1 y) 15 k (2 ^ k)) := by rw [mxF, if_pos rfl]
      refine And.intro (fun h6 => ?_) (fun h6 => ?_)
      · rw [zc_le (by omega) (by omega) (by omega) (by omega)] at h6
        exact ih _ (by omega) (k + 1) _ _ _ hc rfl (by omega) (zn_inc k) (by rw [em]; congr 1; omega)
      · rw [zc_le (by omega) (by omega) (by omega) (by omega)] at h6
        exact ih _ (by omega) (k + 1) _ _ _ hc rfl (by omega) (zn_inc k) (by rw [em]; congr 1; omega)
  refine AW.go (bs := b_Mod_tangle) [13] 60 t_Mod_tangle ?_
  refine ⟨_, v_misDay l, by decide, rfl, y, rfl, ⟨y1, y2⟩, ?_⟩
  refine And.symm (And.intro (fun h => ?_) (fun h => ?_))
  · rw [zc_bne, decide_eq_true_eq] at h
    rw [if_neg h] at hK
    exact hP1 _ _ (hK _ (isMd.mk hOS hMR))
  rw [zc_bne, decide_eq_true_eq] at h
  exact loop _ 0 _ _ _ h rfl (by omega) rfl rfl
