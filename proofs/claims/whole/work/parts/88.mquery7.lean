/-! whether someone decides does not hang on the limit -/
theorem askL_w {M : Od} {y : Int} {rec : Nat → Int → Nat → Nat × Option (Int × List Nat)} (hr : ∀ p w w' A, (rec p w A).1 = (rec p w' A).1 ∧ (rec p w A).2.isSome = (rec p w' A).2.isSome) (p : Nat) (w w' : Int) : ∀ (q k A : Nat), (askL M y rec p w q k A).1 = (askL M y rec p w' q k A).1 ∧ (askL M y rec p w q k A).2.isSome = (askL M y rec p w' q k A).2.isSome := by
  intro q
  induction q with
  | zero => intro k A; exact ⟨rfl, rfl⟩
  | succ q ih =>
    intro k A
    unfold askL
    split
    · have g := hr (tk M k) (min w (M.2.1 2 k 4)) (min w' (M.2.1 2 k 4)) A
      cases h1 : rec (tk M k) (min w (M.2.1 2 k 4)) A with
      | mk A1 r1 =>
        cases h2 : rec (tk M k) (min w' (M.2.1 2 k 4)) A with
        | mk A2 r2 =>
          rw [h1, h2] at g
          obtain ⟨g1, g2⟩ := g
          have g1 : A1 = A2 := g1
          subst g1
          cases r1 with
          | none =>
            cases r2 with
            | none => exact ih _ _
            | some z => cases g2
          | some z =>
            cases r2 with
            | none => cases g2
            | some z' => exact ⟨rfl, rfl⟩
    · exact ih _ _
theorem askF_w {M : Od} (bar : Nat) (ak y : Int) : ∀ (n p : Nat) (w w' : Int) (A : Nat), (askF M bar ak y n p w A).1 = (askF M bar ak y n p w' A).1 ∧ (askF M bar ak y n p w A).2.isSome = (askF M bar ak y n p w' A).2.isSome := by
  intro n
  induction n with
  | zero => intro p w w' A; exact ⟨rfl, rfl⟩
  | succ n ih =>
    intro p w w' A
    unfold askF
    split
    · exact ⟨rfl, rfl⟩
    · split
      · exact ⟨rfl, rfl⟩
      · exact askL_w ih p w w' _ _ _
theorem decF_kind (M : Od) (k k' : Int) (o : Nat) (y : Int) : (decF M (mtK k) o y).isSome = (decF M (mtK k') o y).isSome := by
  unfold decF
  split
  · rfl
  · split
    · next h => rw [if_pos (show holder M o y = mP (mtK k') from h)]
    · next h =>
      rw [if_neg (show ¬ holder M o y = mP (mtK k') from h)]
      exact (askF_w _ _ _ 16 _ _ _ 0).2
def sp_misManned : Sp := (31, 0, 0, pMd, fun as σ K => ∃ (now was kept isk ln sp ls ld tb rd : Nat → Int32) (und gon lef ak vn dy asd lma lim rea sts apr tz spo wro num nuA stl spe wan fou : Int32) (M : Od) (o : Nat) (y : Int), as = [.ref 0, .int (iI o), .int (iI y)] ∧ σ = (wMd now was kept isk ln sp ls ld tb rd und (iI (-1)) (iI (-1)) (iI (-1)) (iI (-1)) dy asd lma lim rea sts apr tz spo wro num nuA stl spe wan fou) ∧ RM now M ∧ OKM M ∧ o < M.1 4 ∧ ir y ∧
  ∀ ln' dy' asd' lma' lim' rea', K (some (.int (bI (decF M (mtK 0) o y).isSome))) (some (wMd now was kept isk ln' sp ls ld tb rd und (iI (-1)) (iI (-1)) (iI (-1)) (iI (-1)) dy' asd' lma' lim' rea' sts apr tz spo wro num nuA stl spe wan fou)))
set_option maxRecDepth 20000 in
theorem v_misManned (l : Launch) : z_V l 207 sp_misManned := by
  refine z_V.ofP (by decide +kernel) ?_
  rintro as σ K Post ⟨now, was, kept, isk, ln, sp, ls, ld, tb, rd, und, gon, lef, ak, vn, dy, asd, lma, lim, rea, sts, apr, tz, spo, wro, num, nuA, stl, spe, wan, fou, M, o, y, rfl, rfl, hN, hO, ho, ⟨y1, y2⟩, hK⟩ hP1 hP0
  have loop : ∀ (n k : Nat) (x : Int32) (ln : Nat → Int32) (dy asd lma lim rea : Int32), n = 3 - k → k ≤ 3 → x = iI (k : Int) → (1 ≤ k → (decF M (mtK 0) o y).isSome = false) →
      AW l 207 31 0 0 11 none Post 2 [some (.ref 0), some (.int (iI o)), some (.int (iI y)), some (.int x)] [] (wMd now was kept isk ln sp ls ld tb rd und (iI (-1)) (iI (-1)) (iI (-1)) (iI (-1)) dy asd lma lim rea sts apr tz spo wro num nuA stl spe wan fou) 0 0 := by
    intro n
    induction n using Nat.strongRecOn with
    | ind n ih =>
      intro k x ln dy asd lma lim rea hn hk e1 hno
      subst e1
      refine AW.go (bs := b_Mod_isManned) [2] 60 t_Mod_isManned ?_
      refine And.intro (fun h => ?_) (fun h => ?_)
      · rw [zn_i, zc_ge (by omega) (by omega) (by omega) (by omega)] at h
        have := hK ln dy asd lma lim rea
        rw [hno (by omega)] at this
        exact And.intro (Or.inl rfl) (hP1 _ _ this)
      rw [zn_i, zc_ge (by omega) (by omega) (by omega) (by omega)] at h
      have hm := mtK_ok (k := (k : Int)) (by omega) (by omega)
      refine ⟨_, v_mdecider l, by decide, _, _, _, _, _, _, _, _, _, _, _, 0, 0, 0, 0, _, _, _, _, _, _, _, _, _, _, _, _, _, _, _, _, M, mtK k, o, y, _, rfl, rfl, rfl, hN, hO, hm, ho, ⟨y1, y2⟩, fun ln' asd' lma' lim' rea' hres => ?_⟩
      have ek := decF_kind M (k : Int) 0 o y
      cases hd : decF M (mtK k) o y with
      | none =>
        rw [hd] at ek
        refine And.intro (fun _ => ?_) (fun h => absurd rfl h)
        exact ih _ (by omega) (k + 1) _ _ _ _ _ _ _ rfl (by omega) (zn_inc k) (fun _ => ek.symm)
      | some z =>
        obtain ⟨x, L⟩ := z
        rw [hd] at ek
        obtain ⟨g1, g2, g3, g4, g5⟩ := decF_ok hO hm ho hd
        have hlp := lastP_rng g5
        refine And.intro (fun h => ?_) (fun _ => ?_)
        · have : lastP L = -1 := (zc_eq (b := -1) (by omega) (by omega) (by omega) (by omega)).mp h
          omega
        have := hK ln' (iI y) asd' lma' lim' rea'
        rw [← ek] at this
        exact And.intro (Or.inr rfl) (hP1 _ _ this)
  refine AW.go (bs := b_Mod_isManned) [2] 60 t_Mod_isManned ?_
  exact loop _ 0 _ _ _ _ _ _ _ rfl (by omega) rfl (fun e => by omega)
set_option maxRecDepth 20000 in
theorem v_mmanned (l : Launch) : z_V l 208 (m4 40 (qp4 q_manned)) := by
  refine z_V.ofP (by decide +kernel) ?_
  rintro as σ K Post ⟨S, ⟨hOS, now, was, kept, isk, ln, sp, ls, ld, tb, rd, und, gon, lef, ak, vn, dy, asd, lma, lim, rea, sts, apr, tz, spo, wro, num, nuA, stl, spe, wan, fou, rfl, hMR⟩, o, u, v, c, rfl, ⟨o1, o2⟩, ⟨u1, u2⟩, ⟨v1, v2⟩, ⟨c1, c2⟩, hK⟩ hP1 hP0
  obtain ⟨hN, h2_, rfl, h4_, h5_, h6_, h7_, rfl, rfl, rfl, h11_⟩ := id hMR
  have hO := hOS.1
  have hx4 := hO.2.2.2.2.2.2.2.2.2 4 (by omega)
  rw [x_4] at hx4
  have hx5 := hO.2.2.2.2.2.2.2.2.2 5 (by omega)
  rw [x_5] at hx5
  unfold qp4 q_manned at hK
  simp only [] at hK
  have fail : Unit → ¬ (0 ≤ o ∧ o < S.1.1 4 ∧ 0 ≤ u ∧ u ≤ v ∧ v ≤ 999 ∧ 0 ≤ c ∧ c ≤ 1) → Post (some (.int (iI (-1)))) (wMd now was kept isk ln sp ls ld tb rd (iI S.2.1.length) (iI (-1)) (iI (-1)) ak vn dy asd lma lim rea sts apr (iI S.2.2.2.1) spo wro num nuA stl spe wan fou) := by
    intro _ hn; rw [if_neg hn] at hK; exact hP1 _ _ (hK _ (isMd.mk hOS hMR))
  have loop : ∀ j : Nat, o = (j : Int) → (0 ≤ o ∧ o < S.1.1 4 ∧ 0 ≤ u ∧ u ≤ v ∧ v ≤ 999 ∧ 0 ≤ c ∧ c ≤ 1) → ∀ (n i : Nat) (x5 x6 : Int32) (ln : Nat → Int32) (dy asd lma lim rea : Int32), n = (v - u + 1).toNat - i → i ≤ (v - u + 1).toNat → x5 = iI (cntF (fun i => isM S.1 j c (u + i)) i : Nat) → x6 = iI (u + i) →
      AW l 208 40 0 0 11 none Post 41 [some (.ref 0), some (.int (iI o)), some (.int (iI u)), some (.int (iI v)), some (.int (iI c)), some (.int x5), some (.int x6)] [] (wMd now was kept isk ln sp ls ld tb rd (iI S.2.1.length) (iI (-1)) (iI (-1)) (iI (-1)) (iI (-1)) dy asd lma lim rea sts apr (iI S.2.2.2.1) spo wro num nuA stl spe wan fou) 0 0 := by
    intro j hj hc n
    subst hj
    rw [if_pos hc, Int.toNat_natCast] at hK
    have hj4 : j < S.1.1 4 := by omega
    induction n using Nat.strongRecOn with
    | ind n ih =>
      intro i x5 x6 ln dy asd lma lim rea hn hi e5 e6
      subst e5; subst e6
      refine AW.go (bs := b_Mod_manned) [41, 83] 80 t_Mod_manned ?_
      refine And.intro (fun h => ?_) (fun h => ?_)
      · rw [zc_gt (by omega) (by omega) (by omega) (by omega)] at h
        have : i = (v - u + 1).toNat := by omega
        subst this
        exact hP1 _ _ (hK _ (isMd.mk hOS hMR))
      rw [zc_gt (by omega) (by omega) (by omega) (by omega)] at h
      have tail : ∀ (b : Bool) (a : Nat) (ln : Nat → Int32) (dy asd lma lim rea : Int32), b = isM S.1 j c (u + i) → a = (if b then 1 else 0) → AW l 208 40 0 0 11 none Post 83 [some (.ref 0), some (.int (iI (j : Int))), some (.int (iI u)), some (.int (iI v)), some (.int (iI c)), some (.int (iI (cntF (fun i => isM S.1 j c (u + i)) i : Nat))), some (.int (iI (u + i)))] [.int (z_nn a 0), .int (iI (cntF (fun i => isM S.1 j c (u + i)) i : Nat))] (wMd now was kept isk ln sp ls ld tb rd (iI S.2.1.length) (iI (-1)) (iI (-1)) (iI (-1)) (iI (-1)) dy asd lma lim rea sts apr (iI S.2.2.2.1) spo wro num nuA stl spe wan fou) 0 0 := by
        intro b a ln dy asd lma lim rea hb ha
        refine AW.go (bs := b_Mod_manned) [41] 80 t_Mod_manned ?_
        refine ih _ (by omega) (i + 1) _ _ _ _ _ _ _ _ rfl (by omega) ?_ (by rw [zn_i, iI_add]; congr 1; omega)
        rw [zn_i, iI_add, cntF, ← hb, ha]
        cases b
        · first | rfl | (congr 1; simp)
        · first | rfl | (congr 1; simp)
      refine And.symm (And.intro (fun h2 => ?_) (fun h2 => ?_))
      · rw [zc_ne0 c1 c2, Classical.not_not] at h2
        have hh := holder_rng hO (j : Int) (u + i)
        refine ⟨_, v_mholderOf l, by decide, _, _, _, _, _, _, _, _, _, _, _, _, _, _, _, _, _, _, _, _, _, _, _, _, _, _, _, _, _, _, _, S.1, rfl, hN, hO, (j : Int), u + i, rfl, ⟨by omega, by omega⟩, ⟨by omega, by omega⟩, ?_⟩
        refine And.intro (fun h3 => ?_) (fun h3 => ?_)
        · have h3 := (zc_eq (b := -1) (by omega) (by omega) (by omega) (by omega)).mp h3
          exact tail false 0 _ _ _ _ _ _ (by unfold isM; rw [if_pos h2, decide_eq_false (fun q => q h3)]) rfl
        · have h3 := mt (zc_eq (a := holder S.1 j (u + i)) (b := -1) (by omega) (by omega) (by omega) (by omega)).mpr h3
          exact tail true 1 _ _ _ _ _ _ (by unfold isM; rw [if_pos h2, decide_eq_true h3]) rfl
      · rw [zc_ne0 c1 c2] at h2
        refine ⟨_, v_misManned l, by decide, _, _, _, _, _, _, _, _, _, _, _, 0, 0, 0, 0, _, _, _, _, _, _, _, _, _, _, _, _, _, _, _, _, S.1, j, u + i, rfl, rfl, hN, hO, hj4, ⟨by omega, by omega⟩, fun ln' dy' asd' lma' lim' rea' => ?_⟩
        refine And.intro (fun h3 => ?_) (fun h3 => ?_)
        · rw [zc_beq] at h3
          exact tail false 0 _ _ _ _ _ _ (by unfold isM; rw [if_neg h2, h3]) rfl
        · rw [zc_beq, Bool.not_eq_false] at h3
          exact tail true 1 _ _ _ _ _ _ (by unfold isM; rw [if_neg h2, h3]) rfl
  refine AW.go (bs := b_Mod_manned) [41] 80 t_Mod_manned ?_
  refine ⟨_, v_misPost l, by decide, _, _, _, _, _, _, _, _, _, _, _, _, _, _, _, _, _, _, _, _, _, _, _, _, _, _, _, _, _, _, _, S.1, rfl, hN, hO, o, rfl, ⟨o1, o2⟩, ?_⟩
  refine And.intro (fun h => ?_) (fun h => ?_)
  · rw [zc_beq, decide_eq_false_iff_not] at h; exact fail () (by omega)
  rw [zc_beq, decide_eq_false_iff_not, Classical.not_not] at h
  refine ⟨_, v_mareDays l, by decide, rfl, u, v, rfl, ⟨u1, u2⟩, ⟨v1, v2⟩, ?_⟩
  refine And.intro (fun h => ?_) (fun h => ?_)
  · rw [zc_beq, dys, decide_eq_false_iff_not] at h; exact fail () (by omega)
  rw [zc_beq, dys, decide_eq_false_iff_not, Classical.not_not] at h
  refine ⟨_, v_in l, by decide, rfl, c, 0, 1, _, _, _, rfl, l_i c1 c2, l_0, l_1, ⟨by omega, by omega⟩, ⟨by omega, by omega⟩, ⟨by omega, by omega⟩, ?_⟩
  refine And.symm (And.intro (fun h => ?_) (fun h => ?_))
  · rw [zc_bne, decide_eq_true_eq] at h; exact fail () (by omega)
  rw [zc_bne, decide_eq_true_eq] at h
  refine ⟨_, v_masksFor l, by decide, _, _, _, _, _, _, _, _, _, _, _, _, _, _, _, _, _, _, _, _, _, _, _, _, _, _, _, _, _, _, _, _, _, rfl, rfl, ?_⟩
  obtain ⟨j, rfl⟩ : ∃ j : Nat, o = (j : Int) := ⟨o.toNat, by omega⟩
  exact loop j rfl (by omega) _ 0 _ _ _ _ _ _ _ _ rfl (by omega) rfl (by congr 1; omega)
theorem gpF_first {Q : Nat → Bool} {u : Int} (hu : 0 ≤ u) : ∀ i, ((gpF Q u i).2.1 = -2 ↔ (gpF Q u i).1 = 0) ∧ (gpF Q u i).2.2.2 ≤ (gpF Q u i).2.2.1
  | 0 => by simp [gpF]
  | i + 1 => by
    have ih := gpF_first (Q := Q) hu i
    have := gpF_rng (Q := Q) hu i
    unfold gpF
    split
    · exact ⟨ih.1, Nat.zero_le _⟩
    · simp only []
      refine ⟨?_, by omega⟩
      split <;> omega
set_option maxRecDepth 20000 in
theorem v_mgap (l : Launch) : z_V l 258 (m4 40 (qp4 q_gap)) := by
  refine z_V.ofP (by decide +kernel) ?_
  rintro as σ K Post ⟨S, ⟨hOS, now, was, kept, isk, ln, sp, ls, ld, tb, rd, und, gon, lef, ak, vn, dy, asd, lma, lim, rea, sts, apr, tz, spo, wro, num, nuA, stl, spe, wan, fou, rfl, hMR⟩, o, u, v, c, rfl, ⟨o1, o2⟩, ⟨u1, u2⟩, ⟨v1, v2⟩, ⟨c1, c2⟩, hK⟩ hP1 hP0
  obtain ⟨hN, h2_, rfl, h4_, h5_, h6_, h7_, rfl, rfl, rfl, h11_⟩ := id hMR
  have hO := hOS.1
  have hx4 := hO.2.2.2.2.2.2.2.2.2 4 (by omega)
  rw [x_4] at hx4
  have hx5 := hO.2.2.2.2.2.2.2.2.2 5 (by omega)
  rw [x_5] at hx5
  unfold qp4 q_gap at hK
  simp only [] at hK
  have fail : Unit → ¬ (0 ≤ o ∧ o < S.1.1 4 ∧ 0 ≤ u ∧ u ≤ v ∧ v ≤ 999 ∧ 0 ≤ c ∧ c ≤ 2) → Post (some (.int (iI (-1)))) (wMd now was kept isk ln sp ls ld tb rd (iI S.2.1.length) (iI (-1)) (iI (-1)) ak vn dy asd lma lim rea sts apr (iI S.2.2.2.1) spo wro num nuA stl spe wan fou) := by
    intro _ hn; rw [if_neg hn] at hK; exact hP1 _ _ (hK _ (isMd.mk hOS hMR))
  have loop : ∀ j : Nat, o = (j : Int) → (0 ≤ o ∧ o < S.1.1 4 ∧ 0 ≤ u ∧ u ≤ v ∧ v ≤ 999 ∧ 0 ≤ c ∧ c ≤ 2) → ∀ (n i : Nat) (G : Nat × Int × Nat × Nat) (x5 x6 x7 x8 x9 : Int32) (ln : Nat → Int32) (dy asd lma lim rea : Int32), n = (v - u + 1).toNat - i → i ≤ (v - u + 1).toNat → G = gpF (fun i => isM S.1 j 1 (u + i)) u i → x5 = iI (G.1 : Nat) → x6 = iI G.2.1 → x7 = iI (G.2.2.2 : Nat) → x8 = iI (G.2.2.1 : Nat) → x9 = iI (u + i) →
      AW l 258 40 0 0 11 none Post 53 [some (.ref 0), some (.int (iI o)), some (.int (iI u)), some (.int (iI v)), some (.int (iI c)), some (.int x5), some (.int x6), some (.int x7), some (.int x8), some (.int x9)] [] (wMd now was kept isk ln sp ls ld tb rd (iI S.2.1.length) (iI (-1)) (iI (-1)) (iI (-1)) (iI (-1)) dy asd lma lim rea sts apr (iI S.2.2.2.1) spo wro num nuA stl spe wan fou) 0 0 := by
    intro j hj hc n
    subst hj
    rw [if_pos hc, Int.toNat_natCast] at hK
    have hj4 : j < S.1.1 4 := by omega
    induction n using Nat.strongRecOn with
    | ind n ih =>
      intro i G x5 x6 x7 x8 x9 ln dy asd lma lim rea hn hi hG e5 e6 e7 e8 e9
      subst e5; subst e6; subst e7; subst e8; subst e9
      have hb := gpF_rng (Q := fun i : Nat => isM S.1 j 1 (u + i)) (u := u) (by omega) i
      have hf := gpF_first (Q := fun i : Nat => isM S.1 j 1 (u + i)) (u := u) (by omega) i
      rw [← hG] at hb hf
      have eG : gpF (fun i => isM S.1 j 1 (u + i)) u (i + 1) = (if isM S.1 j 1 (u + i) then (G.1, G.2.1, G.2.2.1, 0) else (G.1 + 1, (if G.1 = 0 then u + i else G.2.1), max G.2.2.1 (G.2.2.2 + 1), G.2.2.2 + 1)) := by rw [gpF, ← hG]
      have e9 : iI (u + (i : Int)) + z_nn 1 0 = iI (u + ((i + 1 : Nat) : Int)) := by rw [zn_i, iI_add]; congr 1; omega
      refine AW.go (bs := b_Mod_gap) [53] 90 t_Mod_gap ?_
      refine And.intro (fun h => ?_) (fun h => ?_)
      · rw [zc_gt (by omega) (by omega) (by omega) (by omega)] at h
        have : i = (v - u + 1).toNat := by omega
        subst this
        rw [← hG] at hK
        refine And.symm (And.intro (fun h2 => ?_) (fun h2 => ?_))
        · rw [zc_ne0 c1 c2, Classical.not_not] at h2
          rw [if_pos h2] at hK
          exact hP1 _ _ (hK _ (isMd.mk hOS hMR))
        rw [zc_ne0 c1 c2] at h2
        rw [if_neg h2] at hK
        refine And.symm (And.intro (fun h3 => ?_) (fun h3 => ?_))
        · rw [zn_i, zc_ne c1 c2 (by omega) (by omega), Classical.not_not] at h3
          rw [if_pos (by omega)] at hK
          exact hP1 _ _ (hK _ (isMd.mk hOS hMR))
        · rw [zn_i, zc_ne c1 c2 (by omega) (by omega)] at h3
          rw [if_neg (by omega)] at hK
          exact hP1 _ _ (hK _ (isMd.mk hOS hMR))
      rw [zc_gt (by omega) (by omega) (by omega) (by omega)] at h
      refine ⟨_, v_misManned l, by decide, _, _, _, _, _, _, _, _, _, _, _, 0, 0, 0, 0, _, _, _, _, _, _, _, _, _, _, _, _, _, _, _, _, S.1, j, u + i, rfl, rfl, hN, hO, hj4, ⟨by omega, by omega⟩, fun ln' dy' asd' lma' lim' rea' => ?_⟩
      have eM : isM S.1 j 1 (u + i) = (decF S.1 (mtK 0) j (u + i)).isSome := rfl
      refine And.symm (And.intro (fun h2 => ?_) (fun h2 => ?_))
      · rw [zc_beq, Bool.not_eq_false] at h2
        rw [eM, h2, if_pos rfl] at eG
        -- manned: the row is 0
        refine And.intro (fun _ => ?_) (fun h3 => absurd (show z_cond .le (z_nn 0 0) 0 from by show z_nn 0 0 ≤ 0; decide) h3)
        refine And.intro (fun _ => ?_) (fun h3 => absurd (show z_cond .le (z_nn 0 0) 0 from by show z_nn 0 0 ≤ 0; decide) h3)
        refine And.intro (fun _ => ?_) (fun h3 => ?_)
        · exact ih _ (by omega) (i + 1) _ _ _ _ _ _ _ _ _ _ _ _ rfl (by omega) eG.symm (by first | (rw [zn_i, iI_add]; done) | (rw [zn_i, iI_add]; congr 1; done) | (rw [zn_i, iI_add]; congr 1; simp)) rfl rfl rfl e9
        · rw [zn_i, zc_le (by omega) (by omega) (by omega) (by omega)] at h3; omega
      rw [zc_beq] at h2
      rw [eM, h2, if_neg (by decide)] at eG
      have e7 : iI (G.2.2.2 : Int) + z_nn 1 0 = iI ((G.2.2.2 + 1 : Nat) : Int) := zn_inc _
      show _ ∧ _
      rw [e7]
      refine And.intro (fun h3 => ?_) (fun _ => ?_)
      · rw [zc_le0 (by omega) (by omega)] at h3; omega
      refine And.intro (fun h3 => ?_) (fun _ => ?_)
      · rw [zc_le0 (by omega) (by omega)] at h3; omega
      have e5' : iI (G.1 : Int) + z_nn 1 0 = iI ((G.1 + 1 : Nat) : Int) := zn_inc _
      refine And.intro (fun h4 => ?_) (fun h4 => ?_)
      · have h4 := mt (zc_eq (a := G.2.1) (b := -2) (by omega) (by omega) (by omega) (by omega)).mpr (fun q => h4 q)
        rw [if_neg (by omega)] at eG
        refine And.intro (fun h5 => ?_) (fun h5 => ?_)
        · rw [zc_le (by omega) (by omega) (by omega) (by omega)] at h5
          exact ih _ (by omega) (i + 1) _ _ _ _ _ _ _ _ _ _ _ _ rfl (by omega) eG.symm e5' rfl rfl (by congr 1; show (G.2.2.1 : Int) = ((max G.2.2.1 (G.2.2.2 + 1) : Nat) : Int); omega) e9
        · rw [zc_le (by omega) (by omega) (by omega) (by omega)] at h5
          exact ih _ (by omega) (i + 1) _ _ _ _ _ _ _ _ _ _ _ _ rfl (by omega) eG.symm e5' rfl rfl (by congr 1; show ((G.2.2.2 + 1 : Nat) : Int) = ((max G.2.2.1 (G.2.2.2 + 1) : Nat) : Int); omega) e9
      · have h4 := (zc_eq (b := -2) (by omega) (by omega) (by omega) (by omega)).mp (Classical.not_not.mp h4)
        rw [if_pos (by omega)] at eG
        refine And.intro (fun h5 => ?_) (fun h5 => ?_)
        · rw [zc_le (by omega) (by omega) (by omega) (by omega)] at h5
          exact ih _ (by omega) (i + 1) _ _ _ _ _ _ _ _ _ _ _ _ rfl (by omega) eG.symm e5' rfl rfl (by congr 1; show (G.2.2.1 : Int) = ((max G.2.2.1 (G.2.2.2 + 1) : Nat) : Int); omega) e9
        · rw [zc_le (by omega) (by omega) (by omega) (by omega)] at h5
          exact ih _ (by omega) (i + 1) _ _ _ _ _ _ _ _ _ _ _ _ rfl (by omega) eG.symm e5' rfl rfl (by congr 1; show ((G.2.2.2 + 1 : Nat) : Int) = ((max G.2.2.1 (G.2.2.2 + 1) : Nat) : Int); omega) e9
  refine AW.go (bs := b_Mod_gap) [53] 90 t_Mod_gap ?_
  refine ⟨_, v_misPost l, by decide, _, _, _, _, _, _, _, _, _, _, _, _, _, _, _, _, _, _, _, _, _, _, _, _, _, _, _, _, _, _, _, S.1, rfl, hN, hO, o, rfl, ⟨o1, o2⟩, ?_⟩
  refine And.intro (fun h => ?_) (fun h => ?_)
  · rw [zc_beq, decide_eq_false_iff_not] at h; exact fail () (by omega)
  rw [zc_beq, decide_eq_false_iff_not, Classical.not_not] at h
  refine ⟨_, v_mareDays l, by decide, rfl, u, v, rfl, ⟨u1, u2⟩, ⟨v1, v2⟩, ?_⟩
  refine And.intro (fun h => ?_) (fun h => ?_)
  · rw [zc_beq, dys, decide_eq_false_iff_not] at h; exact fail () (by omega)
  rw [zc_beq, dys, decide_eq_false_iff_not, Classical.not_not] at h
  refine ⟨_, v_in l, by decide, rfl, c, 0, 2, _, _, _, rfl, l_i c1 c2, l_0, l_k 2, ⟨by omega, by omega⟩, ⟨by omega, by omega⟩, ⟨by omega, by omega⟩, ?_⟩
  refine And.symm (And.intro (fun h => ?_) (fun h => ?_))
  · rw [zc_bne, decide_eq_true_eq] at h; exact fail () (by omega)
  rw [zc_bne, decide_eq_true_eq] at h
  refine ⟨_, v_masksFor l, by decide, _, _, _, _, _, _, _, _, _, _, _, _, _, _, _, _, _, _, _, _, _, _, _, _, _, _, _, _, _, _, _, _, _, rfl, rfl, ?_⟩
  obtain ⟨j, rfl⟩ : ∃ j : Nat, o = (j : Int) := ⟨o.toNat, by omega⟩
  exact loop j rfl (by omega) _ 0 _ _ _ _ _ _ _ _ _ _ _ _ rfl (by omega) rfl rfl rfl rfl rfl (by congr 1; omega)
