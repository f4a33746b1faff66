set_option maxRecDepth 20000 in
theorem v_msplit (l : Launch) : z_V l 197 (m1 40 (qp q_split)) := by
  refine z_V.ofP (by decide +kernel) ?_
  rintro as σ K Post ⟨S, ⟨hOS, now, was, kept, isk, ln, sp, ls, ld, tb, rd, und, gon, lef, ak, vn, dy, asd, lma, lim, rea, sts, apr, tz, spo, wro, num, nuA, stl, spe, wan, fou, rfl, hMR⟩, r, rfl, ⟨r1, r2⟩, hK⟩ hP1 hP0
  obtain ⟨hN, h2_, rfl, h4_, h5_, h6_, h7_, rfl, rfl, rfl, h11_⟩ := id hMR
  have hO := hOS.1
  have hx4 := hO.2.2.2.2.2.2.2.2.2 4 (by omega)
  rw [x_4] at hx4
  have hx5 := hO.2.2.2.2.2.2.2.2.2 5 (by omega)
  rw [x_5] at hx5
  unfold qp q_split at hK
  simp only [] at hK
  refine AW.go (bs := b_Mod_split) [] 60 t_Mod_split ?_
  refine ⟨_, v_misRequest l, by decide, _, _, _, _, _, _, _, _, _, _, _, _, _, _, _, _, _, _, _, _, _, _, _, _, _, _, _, _, _, _, _, S.1, rfl, hN, hO, r, rfl, ⟨r1, r2⟩, ?_⟩
  refine And.symm (And.intro (fun h => ?_) (fun h => ?_))
  · rw [zc_bne, decide_eq_true_eq] at h
    rw [if_neg h] at hK
    exact hP1 _ _ (hK _ (isMd.mk hOS hMR))
  rw [zc_bne, decide_eq_true_eq] at h
  rw [if_pos h] at hK
  obtain ⟨j, rfl⟩ : ∃ j : Nat, r = (j : Int) := ⟨r.toNat, by omega⟩
  rw [Int.toNat_natCast] at hK
  have hr : j < S.1.1 5 := by omega
  have hc := hO.2.2.2.2.2.1 j hr
  have hw := whF_rng hO hr (S.1.2.1 5 j 5)
  have hwq : 1 ≤ wq S.1 j ∧ wq S.1 j ≤ 500000 := hw
  have hq := rq_ok hO hr
  have hm := mtR_ok hO hr
  have hA := cv_route hO hm (w := S.1.2.1 5 j 4) (by omega) (by omega) 12 (S.1.2.1 5 j 1) (S.1.2.1 5 j 5) 0 (by omega)
  have hW := cv_route hO hm (w := wq S.1 j) (by omega) (by omega) 12 (S.1.2.1 5 j 1) (S.1.2.1 5 j 5) 0 (by omega)
  have hle : S.1.2.1 5 j 4 ≤ wq S.1 j := by
    have := amt_rng hO (jm S.1 j (S.1.2.1 5 j 5)) (n := S.1.1 5) (Nat.le_refl _)
    unfold wq whF; omega
  have hmono := cv_mono hle (rqX S.1 j) 0
  have hx := rqX_ok hO hr
  obtain ⟨A, hAe⟩ : ∃ A, A = cvF 10000 (S.1.2.1 5 j 4) (rqX S.1 j) 0 := ⟨_, rfl⟩
  obtain ⟨W, hWe⟩ : ∃ W, W = cvF 10000 (wq S.1 j) (rqX S.1 j) 0 := ⟨_, rfl⟩
  have hA2 : (A ≠ -1 → lC (routeF S.1 (mtR S.1 j) (S.1.2.1 5 j 4) 12 (S.1.2.1 5 j 1) (S.1.2.1 5 j 5)) (S.1.2.1 5 j 4) 4 = 0 ∧ A = ((0 : Nat) : Int) + (routeF S.1 (mtR S.1 j) (S.1.2.1 5 j 4) 12 (S.1.2.1 5 j 1) (S.1.2.1 5 j 5)).length - 1) ∧ (A = -1 → lC (routeF S.1 (mtR S.1 j) (S.1.2.1 5 j 4) 12 (S.1.2.1 5 j 1) (S.1.2.1 5 j 5)) (S.1.2.1 5 j 4) 4 ≠ 0) := by rw [hAe]; exact hA
  have hW2 : (W ≠ -1 → lC (rq S.1 j) (wq S.1 j) 4 = 0 ∧ W = ((0 : Nat) : Int) + (rq S.1 j).length - 1) ∧ (W = -1 → lC (rq S.1 j) (wq S.1 j) 4 ≠ 0) := by rw [hWe]; exact hW
  rw [← hAe, ← hWe] at hmono hK
  have hlA := (routeF_ok hO hm (S.1.2.1 5 j 4) 12 (S.1.2.1 5 j 1) (S.1.2.1 5 j 5) (by omega)).2
  have hlW := hq.2
  refine ⟨_, v_mof l, by decide, _, _, _, _, _, _, _, _, _, _, _, _, _, _, _, _, _, _, _, _, _, _, _, _, _, _, _, _, _, _, _, S.1, rfl, hN, hO, j, 4, rfl, hr, by omega, ?_⟩
  refine ⟨_, v_mroutesBy l, by decide, _, _, _, _, _, _, _, _, _, _, _, 0, 0, _, _, _, _, _, _, _, _, _, _, _, _, _, _, _, _, _, _, S.1, j, -1, -1, S.1.2.1 5 j 4, rfl, rfl, hN, hO, hr, ⟨by omega, by omega⟩, ⟨by omega, by omega⟩, ⟨by omega, by omega⟩, fun sp1 ls1 ln1 ak1 vn1 dy1 asd1 lma1 lim1 rea1 sts1 apr1 hrt1 => ?_⟩
  obtain ⟨-, hs1, ha1⟩ := hrt1
  have hs1 : sts1 = iI ((routeF S.1 (mtR S.1 j) (S.1.2.1 5 j 4) 12 (S.1.2.1 5 j 1) (S.1.2.1 5 j 5)).length : Int) := hs1
  have ha1 : apr1 = bI (decide (lC (routeF S.1 (mtR S.1 j) (S.1.2.1 5 j 4) 12 (S.1.2.1 5 j 1) (S.1.2.1 5 j 5)) (S.1.2.1 5 j 4) 4 = 0)) := ha1
  subst hs1; subst ha1
  refine ⟨_, v_mroutes l, by decide, _, _, _, _, _, _, _, _, _, _, _, 0, 0, _, _, _, _, _, _, _, _, _, _, _, _, _, _, _, _, _, _, S.1, j, -1, -1, rfl, rfl, hN, hO, hr, ⟨by omega, by omega⟩, ⟨by omega, by omega⟩, fun sp ls ln ak vn dy asd lma lim rea sts apr hrt => ?_⟩
  have hrt0 : mRt (rq S.1 j) (wq S.1 j) sp ls sts apr := hrt
  have hne : rq S.1 j ≠ [] := routeF_ne (by omega) (by omega) (by omega)
  obtain ⟨hRR, rfl, rfl⟩ := hrt0
  refine And.intro (fun h => ?_) (fun h => ?_)
  · rw [zc_beq, decide_eq_false_iff_not] at h
    rw [if_neg (fun q => h (hA2.1 q.1).1)] at hK
    exact hP1 _ _ (hK _ (isMd.mk hOS hMR))
  rw [zc_beq, decide_eq_false_iff_not, Classical.not_not] at h
  have hAn : A ≠ -1 := fun e => hA2.2 e h
  refine And.intro (fun h2 => ?_) (fun h2 => ?_)
  · rw [zc_beq, decide_eq_false_iff_not] at h2
    have hWn : W = -1 := Classical.byContradiction (fun e => h2 (hW2.1 e).1)
    rw [if_pos ⟨hAn, by omega⟩] at hK
    exact hP1 _ _ (hK _ (isMd.mk hOS hMR))
  rw [zc_beq, decide_eq_false_iff_not, Classical.not_not] at h2
  have hWn : W ≠ -1 := fun e => hW2.2 e h2
  have e1 := (hA2.1 hAn).2
  have e2 := (hW2.1 hWn).2
  refine And.intro (fun h3 => ?_) (fun h3 => ?_)
  · rw [zc_le (by omega) (by omega) (by omega) (by omega)] at h3
    rw [if_neg (fun q => by have := hmono.1 hWn; omega)] at hK
    exact hP1 _ _ (hK _ (isMd.mk hOS hMR))
  · rw [zc_le (by omega) (by omega) (by omega) (by omega)] at h3
    rw [if_pos ⟨hAn, by omega⟩] at hK
    exact hP1 _ _ (hK _ (isMd.mk hOS hMR))
set_option maxRecDepth 20000 in
theorem v_mwithout (l : Launch) : z_V l 198 (m3 40 (qp3 q_without)) := by
  refine z_V.ofP (by decide +kernel) ?_
  rintro as σ K Post ⟨S, ⟨hOS, now, was, kept, isk, ln, sp, ls, ld, tb, rd, und, gon, lef, ak, vn, dy, asd, lma, lim, rea, sts, apr, tz, spo, wro, num, nuA, stl, spe, wan, fou, rfl, hMR⟩, r, p, c, rfl, ⟨r1, r2⟩, ⟨p1, p2⟩, ⟨c1, c2⟩, hK⟩ hP1 hP0
  obtain ⟨hN, h2_, rfl, h4_, h5_, h6_, h7_, rfl, rfl, rfl, h11_⟩ := id hMR
  have hO := hOS.1
  have hx4 := hO.2.2.2.2.2.2.2.2.2 4 (by omega)
  rw [x_4] at hx4
  have hx5 := hO.2.2.2.2.2.2.2.2.2 5 (by omega)
  rw [x_5] at hx5
  unfold qp3 q_without at hK
  simp only [] at hK
  have fail : Unit → ¬ (0 ≤ r ∧ r < S.1.1 5 ∧ 0 ≤ p ∧ p ≤ 15 ∧ 0 ≤ c ∧ c ≤ 2) → Post (some (.int (iI (-1)))) (wMd now was kept isk ln sp ls ld tb rd (iI S.2.1.length) (iI (-1)) (iI (-1)) ak vn dy asd lma lim rea sts apr (iI S.2.2.2.1) spo wro num nuA stl spe wan fou) := by
    intro _ hn; rw [if_neg hn] at hK; exact hP1 _ _ (hK _ (isMd.mk hOS hMR))
  refine AW.go (bs := b_Mod_without) [] 60 t_Mod_without ?_
  refine ⟨_, v_misRequest l, by decide, _, _, _, _, _, _, _, _, _, _, _, _, _, _, _, _, _, _, _, _, _, _, _, _, _, _, _, _, _, _, _, S.1, rfl, hN, hO, r, rfl, ⟨r1, r2⟩, ?_⟩
  refine And.intro (fun h => ?_) (fun h => ?_)
  · rw [zc_beq, decide_eq_false_iff_not] at h; exact fail () (by omega)
  rw [zc_beq, decide_eq_false_iff_not, Classical.not_not] at h
  refine ⟨_, v_misPerson l, by decide, rfl, p, rfl, ⟨p1, p2⟩, ?_⟩
  refine And.intro (fun h => ?_) (fun h => ?_)
  · rw [zc_beq, decide_eq_false_iff_not] at h; exact fail () (by omega)
  rw [zc_beq, decide_eq_false_iff_not, Classical.not_not] at h
  refine ⟨_, v_in l, by decide, rfl, c, 0, 2, _, _, _, rfl, l_i c1 c2, l_0, l_k 2, ⟨by omega, by omega⟩, ⟨by omega, by omega⟩, ⟨by omega, by omega⟩, ?_⟩
  refine And.symm (And.intro (fun h => ?_) (fun h => ?_))
  · rw [zc_bne, decide_eq_true_eq] at h; exact fail () (by omega)
  rw [zc_bne, decide_eq_true_eq] at h
  rw [if_pos (by omega)] at hK
  obtain ⟨j, rfl⟩ : ∃ j : Nat, r = (j : Int) := ⟨r.toNat, by omega⟩
  rw [Int.toNat_natCast] at hK
  have hr : j < S.1.1 5 := by omega
  have hc := hO.2.2.2.2.2.1 j hr
  have hw := whF_rng hO hr (S.1.2.1 5 j 5)
  have hwq : 1 ≤ wq S.1 j ∧ wq S.1 j ≤ 500000 := hw
  have hq := rq_ok hO hr
  have hx := routeF_ok hO (mtA_ok hO hr (p := p) ⟨p1, p2⟩) (wq S.1 j) 12 (S.1.2.1 5 j 1) (S.1.2.1 5 j 5) (by omega)
  refine ⟨_, v_mroutes l, by decide, _, _, _, _, _, _, _, _, _, _, _, 0, 0, _, _, _, _, _, _, _, _, _, _, _, _, _, _, _, _, _, _, S.1, j, p, -1, rfl, rfl, hN, hO, hr, ⟨by omega, by omega⟩, ⟨by omega, by omega⟩, fun sp ls ln ak vn dy asd lma lim rea sts apr hrt => ?_⟩
  refine ⟨_, v_mendBy l, by decide, _, _, _, _, _, _, _, _, _, _, _, _, _, _, _, _, _, _, _, _, _, _, _, _, _, _, _, _, _, _, _, wq S.1 j, rqA S.1 j p, rfl, hrt, hx.2, routeF_ne (by omega) (by omega) (by omega), c, rfl, ⟨c1, c2⟩, by omega, ?_⟩
  exact hP1 _ _ (hK _ (isMd.mk hOS hMR))
set_option maxRecDepth 20000 in
theorem v_mcure (l : Launch) : z_V l 199 (m2 40 (qp2 q_cure)) := by
  refine z_V.ofP (by decide +kernel) ?_
  rintro as σ K Post ⟨S, ⟨hOS, now, was, kept, isk, ln, sp, ls, ld, tb, rd, und, gon, lef, ak, vn, dy, asd, lma, lim, rea, sts, apr, tz, spo, wro, num, nuA, stl, spe, wan, fou, rfl, hMR⟩, r, c, rfl, ⟨r1, r2⟩, ⟨c1, c2⟩, hK⟩ hP1 hP0
  obtain ⟨hN, h2_, rfl, h4_, h5_, h6_, h7_, rfl, rfl, rfl, h11_⟩ := id hMR
  have hO := hOS.1
  have hx4 := hO.2.2.2.2.2.2.2.2.2 4 (by omega)
  rw [x_4] at hx4
  have hx5 := hO.2.2.2.2.2.2.2.2.2 5 (by omega)
  rw [x_5] at hx5
  unfold qp2 q_cure at hK
  simp only [] at hK
  have fail : Unit → ¬ (0 ≤ r ∧ r < S.1.1 5 ∧ 0 ≤ c ∧ c ≤ 1) → Post (some (.int (iI (-1)))) (wMd now was kept isk ln sp ls ld tb rd (iI S.2.1.length) (iI (-1)) (iI (-1)) ak vn dy asd lma lim rea sts apr (iI S.2.2.2.1) spo wro num nuA stl spe wan fou) := by
    intro _ hn; rw [if_neg hn] at hK; exact hP1 _ _ (hK _ (isMd.mk hOS hMR))
  have hx1 := hO.mx 1 (by omega)
  have loop : ∀ j : Nat, r = (j : Int) → (0 ≤ r ∧ r < S.1.1 5 ∧ 0 ≤ c ∧ c ≤ 1) → ∀ (n i : Nat) (x3 x4 x5 : Int32) (sp ls ln : Nat → Int32) (ak vn dy asd lma lim rea sts apr : Int32), n = S.1.1 1 - i → i ≤ S.1.1 1 → x3 = iI (bsB (cuF S.1 j i)) → x4 = iI (if bsB (cuF S.1 j i) = -2 then -2 else bsD (cuF S.1 j i)) → x5 = iI (i : Int) →
      AW l 199 40 0 0 11 none Post 30 [some (.ref 0), some (.int (iI r)), some (.int (iI c)), some (.int x3), some (.int x4), some (.int x5)] [] (wMd now was kept isk ln sp ls ld tb rd (iI S.2.1.length) (iI (-1)) (iI (-1)) ak vn dy asd lma lim rea sts apr (iI S.2.2.2.1) spo wro num nuA stl spe wan fou) 0 0 := by
    intro j hj hc n
    subst hj
    rw [if_pos hc, Int.toNat_natCast] at hK
    have hr : j < S.1.1 5 := by omega
    have hc := hO.2.2.2.2.2.1 j hr
    have hw := whF_rng hO hr (S.1.2.1 5 j 5)
    have hwq : 1 ≤ wq S.1 j ∧ wq S.1 j ≤ 500000 := hw
    have hq := rq_ok hO hr
    have hbr := fun (i : Nat) (hi : i ≤ S.1.1 1) => bsF_rng (P := cuP S.1 j) i (fun k d hk hd => by
      unfold cuP at hd
      split at hd
      · cases hd; exact ⟨(lC_rng (rqL_ok hO hr ⟨by omega, by omega⟩).1 _ 1).1, (lC_rng (rqL_ok hO hr ⟨by omega, by omega⟩).1 _ 1).2⟩
      · cases hd)
    induction n using Nat.strongRecOn with
    | ind n ih =>
      intro i x3 x4 x5 sp ls ln ak vn dy asd lma lim rea sts apr hn hi e3 e4 e5
      subst e3; subst e4; subst e5
      have hb := hbr i hi
      rw [show bsF (cuP S.1 j) i = cuF S.1 j i from rfl] at hb
      have hnone : bsB (cuF S.1 j i) = -2 ↔ cuF S.1 j i = none := by
        cases hcu : cuF S.1 j i with
        | none => simp [bsB]
        | some z => simp [bsB]
      refine AW.go (bs := b_Mod_cure) [30] 70 t_Mod_cure ?_
      refine ⟨_, v_mmany l, by decide, _, _, _, _, _, _, _, _, _, _, _, _, _, _, _, _, _, _, _, _, _, _, _, _, _, _, _, _, _, _, _, S.1, rfl, hN, hO, 1, rfl, by omega, ?_⟩
      refine And.intro (fun h => ?_) (fun h => ?_)
      · rw [zc_ge (by omega) (by omega) (by omega) (by omega)] at h
        have : i = S.1.1 1 := by omega
        subst this
        refine And.symm (And.intro (fun h2 => ?_) (fun h2 => ?_))
        · rw [zc_ne0 c1 c2, Classical.not_not] at h2
          rw [if_pos (Or.inl h2)] at hK
          exact hP1 _ _ (hK _ (isMd.mk hOS hMR))
        · rw [zc_ne0 c1 c2] at h2
          by_cases e : bsB (cuF S.1 j (S.1.1 1)) = -2
          · rw [if_pos (Or.inr e), e] at hK
            show Post _ _
            rw [if_pos e]
            exact hP1 _ _ (hK _ (isMd.mk hOS hMR))
          · rw [if_neg (fun q => q.elim h2 e)] at hK
            show Post _ _
            rw [if_neg e]
            exact hP1 _ _ (hK _ (isMd.mk hOS hMR))
      rw [zc_ge (by omega) (by omega) (by omega) (by omega)] at h
      have hx := rqL_ok hO hr (k := (i : Int)) ⟨by omega, by omega⟩
      have hne : rqL S.1 j i ≠ [] := routeF_ne (by omega) (by omega) (by omega)
      refine ⟨_, v_mroutes l, by decide, _, _, _, _, _, _, _, _, _, _, _, 0, 0, _, _, _, _, _, _, _, _, _, _, _, _, _, _, _, _, _, _, S.1, j, -1, (i : Int), rfl, rfl, hN, hO, hr, ⟨by omega, by omega⟩, ⟨by omega, by omega⟩, fun sp' ls' ln' ak' vn' dy' asd' lma' lim' rea' sts' apr' hrt => ?_⟩
      have hrt0 : mRt (rqL S.1 j i) (wq S.1 j) sp' ls' sts' apr' := hrt
      have hl1 := lC_rng hx.1 (wq S.1 j) 1
      have hl999 : lC (rqL S.1 j i) (wq S.1 j) 1 ≤ 999 := by
        unfold lC
        cases hg : (rqL S.1 j i).getLast? with
        | none => simp
        | some e => exact (hx.1 e (List.mem_of_getLast? hg)).2.2.1
      have ecu : cuF S.1 j (i + 1) = (match cuP S.1 j i with | none => cuF S.1 j i | some d => if d < bsD (cuF S.1 j i) then some (i, d) else cuF S.1 j i) := rfl
      obtain ⟨-, hs', ha'⟩ := id hrt0
      show _ ∧ _
      rw [ha']
      refine And.intro (fun h2 => ?_) (fun h2 => ?_)
      · rw [zc_beq, decide_eq_false_iff_not] at h2
        have ep : cuP S.1 j i = none := by unfold cuP; rw [if_neg h2]
        rw [ep] at ecu
        simp only [] at ecu
        exact ih _ (by omega) (i + 1) _ _ _ _ _ _ _ _ _ _ _ _ _ _ _ rfl (by omega) (by rw [ecu]) (by rw [ecu]) (zn_inc i)
      rw [zc_beq, decide_eq_false_iff_not, Classical.not_not] at h2
      have ep : cuP S.1 j i = some (lC (rqL S.1 j i) (wq S.1 j) 1) := by unfold cuP; rw [if_pos h2]
      rw [ep] at ecu
      simp only [] at ecu
      have hrt1 : mRt (rqL S.1 j i) (wq S.1 j) sp' ls' sts' (bI (decide (lC (rqL S.1 j i) (wq S.1 j) 4 = 0))) := by rw [← ha']; exact hrt0
      refine And.intro (fun h3 => ?_) (fun h3 => ?_)
      · have h3 := (zc_eq (b := -2) (by omega) (by omega) (by omega) (by omega)).mp h3
        have hb1000 : bsD (cuF S.1 j i) = 1000 := by rw [hnone.mp h3]; rfl
        rw [if_pos (by omega)] at ecu
        refine ⟨_, v_mlast l, by decide, _, _, _, _, _, _, _, _, _, _, _, _, _, _, _, _, _, _, _, _, _, _, _, _, _, _, _, _, _, _, _, wq S.1 j, rqL S.1 j i, rfl, hrt1, hx.2, hne, 1, rfl, by omega, ?_⟩
        exact ih _ (by omega) (i + 1) _ _ _ _ _ _ _ _ _ _ _ _ _ _ _ rfl (by omega) (by rw [ecu]; rfl) (by rw [ecu, if_neg (by simp [bsB])]; rfl) (zn_inc i)
      have h3 := mt (zc_eq (a := bsB (cuF S.1 j i)) (b := -2) (by omega) (by omega) (by omega) (by omega)).mpr h3
      refine ⟨_, v_mlast l, by decide, _, _, _, _, _, _, _, _, _, _, _, _, _, _, _, _, _, _, _, _, _, _, _, _, _, _, _, _, _, _, _, wq S.1 j, rqL S.1 j i, rfl, hrt1, hx.2, hne, 1, rfl, by omega, ?_⟩
      show _ ∧ _
      rw [if_neg h3]
      refine And.symm (And.intro (fun h4 => ?_) (fun h4 => ?_))
      · rw [zc_lt (by omega) (by omega) (by omega) (by omega)] at h4
        rw [if_neg h4] at ecu
        exact ih _ (by omega) (i + 1) _ _ _ _ _ _ _ _ _ _ _ _ _ _ _ rfl (by omega) (by rw [ecu]) (by rw [ecu, if_neg h3]) (zn_inc i)
      · rw [zc_lt (by omega) (by omega) (by omega) (by omega)] at h4
        rw [if_pos h4] at ecu
        refine ⟨_, v_mlast l, by decide, _, _, _, _, _, _, _, _, _, _, _, _, _, _, _, _, _, _, _, _, _, _, _, _, _, _, _, _, _, _, _, wq S.1 j, rqL S.1 j i, rfl, hrt1, hx.2, hne, 1, rfl, by omega, ?_⟩
        exact ih _ (by omega) (i + 1) _ _ _ _ _ _ _ _ _ _ _ _ _ _ _ rfl (by omega) (by rw [ecu]; rfl) (by rw [ecu, if_neg (by simp [bsB])]; rfl) (zn_inc i)
  refine AW.go (bs := b_Mod_cure) [30] 70 t_Mod_cure ?_
  refine ⟨_, v_misRequest l, by decide, _, _, _, _, _, _, _, _, _, _, _, _, _, _, _, _, _, _, _, _, _, _, _, _, _, _, _, _, _, _, _, S.1, rfl, hN, hO, r, rfl, ⟨r1, r2⟩, ?_⟩
  refine And.intro (fun h => ?_) (fun h => ?_)
  · rw [zc_beq, decide_eq_false_iff_not] at h; exact fail () (by omega)
  rw [zc_beq, decide_eq_false_iff_not, Classical.not_not] at h
  refine ⟨_, v_in l, by decide, rfl, c, 0, 1, _, _, _, rfl, l_i c1 c2, l_0, l_1, ⟨by omega, by omega⟩, ⟨by omega, by omega⟩, ⟨by omega, by omega⟩, ?_⟩
  refine And.symm (And.intro (fun h => ?_) (fun h => ?_))
  · rw [zc_bne, decide_eq_true_eq] at h; exact fail () (by omega)
  rw [zc_bne, decide_eq_true_eq] at h
  obtain ⟨j, rfl⟩ : ∃ j : Nat, r = (j : Int) := ⟨r.toNat, by omega⟩
  exact loop j rfl (by omega) _ 0 _ _ _ _ _ _ _ _ _ _ _ _ _ _ _ rfl (by omega) rfl rfl rfl
/-- the greatest limit of those who decide, of the first n steps -/
def blF (R : List SE) : Nat → Int
  | 0 => -2
  | n + 1 => match R[n]? with
    | some e => if sC e 0 2 ≠ -2 ∧ blF R n < sC e 0 3 then sC e 0 3 else blF R n
    | none => blF R n
theorem sC_w (e : SE) (w w' : Int) (c : Nat) (hc : c ≠ 4) : sC e w c = sC e w' c := by
  unfold sC
  split <;> first | rfl | omega
theorem blF_rng {R : List SE} (h : ∀ e ∈ R, rOK e) : ∀ n, -2 ≤ blF R n ∧ blF R n ≤ 9999
  | 0 => by simp [blF]
  | n + 1 => by
    have ih := blF_rng h n
    unfold blF
    split
    · next e he =>
      have := sC_rng (h e (List.mem_of_getElem? he)) 0 3
      split <;> omega
    · exact ih
theorem glF_max (w : Int) : ∀ (R : List SE) (g : Int), g ≤ glF w R g
  | [], g => Int.le_refl _
  | e :: R, g => by have := glF_max w R (max g (sC e w 3)); unfold glF; omega
theorem glF_app (w : Int) : ∀ (R R' : List SE) (g : Int), glF w (R ++ R') g = glF w R' (glF w R g)
  | [], R', g => rfl
  | e :: R, R', g => by rw [List.cons_append, glF, glF, glF_app w R R']
theorem bl_gl {R : List SE} (h : ∀ e ∈ R, rOK e) : ∀ n, n ≤ R.length → glF 10000 (R.take n) 0 = max 0 (blF R n)
  | 0, _ => by simp [blF, glF]; omega
  | n + 1, hn => by
    obtain ⟨e, he⟩ : ∃ e, R[n]? = some e := ⟨_, List.getElem?_eq_getElem (by omega)⟩
    have hok := h e (List.mem_of_getElem? he)
    rw [List.take_succ, he, glF_app, bl_gl h n (by omega), blF, he]
    show max (max 0 (blF R n)) (sC e 10000 3) = _
    rw [sC_w e 10000 0 3 (by omega)]
    have hr := sC_rng hok 0 3
    have hdec : sC e 0 2 = -2 → sC e 0 3 = -2 := by
      unfold sC
      simp only []
      cases hd : e.2.2.1 with
      | none => simp
      | some z =>
        obtain ⟨x, L⟩ := z
        have := lastP_rng (hok.2.2.2.1 x L hd).2.2.2.2
        unfold lastP at this
        intro q
        simp only [] at q
        omega
    simp only []
    split <;> omega
set_option maxRecDepth 20000 in
theorem v_mmost (l : Launch) : z_V l 200 (m2 40 (qp2 q_most)) := by
  refine z_V.ofP (by decide +kernel) ?_
  rintro as σ K Post ⟨S, ⟨hOS, now, was, kept, isk, ln, sp, ls, ld, tb, rd, und, gon, lef, ak, vn, dy, asd, lma, lim, rea, sts, apr, tz, spo, wro, num, nuA, stl, spe, wan, fou, rfl, hMR⟩, r, u, rfl, ⟨r1, r2⟩, ⟨u1, u2⟩, hK⟩ hP1 hP0
  obtain ⟨hN, h2_, rfl, h4_, h5_, h6_, h7_, rfl, rfl, rfl, h11_⟩ := id hMR
  have hO := hOS.1
  have hx4 := hO.2.2.2.2.2.2.2.2.2 4 (by omega)
  rw [x_4] at hx4
  have hx5 := hO.2.2.2.2.2.2.2.2.2 5 (by omega)
  rw [x_5] at hx5
  unfold qp2 q_most at hK
  simp only [] at hK
  have fail : Unit → ¬ (0 ≤ r ∧ r < S.1.1 5 ∧ 0 ≤ u ∧ u ≤ upN S.1 12 (S.1.2.1 4 (S.1.2.1 5 r.toNat 1).toNat 0)) → Post (some (.int (iI (-1)))) (wMd now was kept isk ln sp ls ld tb rd (iI S.2.1.length) (iI (-1)) (iI (-1)) ak vn dy asd lma lim rea sts apr (iI S.2.2.2.1) spo wro num nuA stl spe wan fou) := by
    intro _ hn; rw [if_neg hn] at hK; exact hP1 _ _ (hK _ (isMd.mk hOS hMR))
  have loop : ∀ j : Nat, r = (j : Int) → (0 ≤ r ∧ r < S.1.1 5 ∧ 0 ≤ u ∧ u ≤ upN S.1 12 (S.1.2.1 4 (S.1.2.1 5 r.toNat 1).toNat 0)) → ∀ (n i : Nat) (x3 x4 x5 : Int32) (sp ls ln : Nat → Int32) (ak vn dy asd lma lim rea sts apr : Int32), mRt (rqX S.1 j) 10000 sp ls sts apr → n = (rqX S.1 j).length - i → i ≤ (rqX S.1 j).length → (i : Int) ≤ u + 1 → x3 = iI (amt S.1 (jm S.1 j (S.1.2.1 5 j 5)) (S.1.1 5)) → x4 = iI (blF (rqX S.1 j) i) → x5 = iI (i : Int) →
      AW l 200 40 0 0 11 none Post 58 [some (.ref 0), some (.int (iI r)), some (.int (iI u)), some (.int x3), some (.int x4), some (.int x5)] [] (wMd now was kept isk ln sp ls ld tb rd (iI S.2.1.length) (iI (-1)) (iI (-1)) ak vn dy asd lma lim rea sts apr (iI S.2.2.2.1) spo wro num nuA stl spe wan fou) 0 0 := by
    intro j hj hc n
    subst hj
    rw [if_pos hc, Int.toNat_natCast] at hK
    have hr : j < S.1.1 5 := by omega
    have hc := hO.2.2.2.2.2.1 j hr
    have hw := whF_rng hO hr (S.1.2.1 5 j 5)
    have hwq : 1 ≤ wq S.1 j ∧ wq S.1 j ≤ 500000 := hw
    have hq := rq_ok hO hr
    have hx := rqX_ok hO hr
    have hl12 := hx.2
    have hamt := amt_rng hO (jm S.1 j (S.1.2.1 5 j 5)) (n := S.1.1 5) (Nat.le_refl _)
    induction n using Nat.strongRecOn with
    | ind n ih =>
      intro i x3 x4 x5 sp ls ln ak vn dy asd lma lim rea sts apr hrt hn hi hiu e3 e4 e5
      subst e3; subst e4; subst e5
      have hrt0 := hrt
      obtain ⟨hRR, rfl, rfl⟩ := hrt
      have hbl := blF_rng hx.1 i
      have fin : (rqX S.1 j).take (u + 1).toNat = (rqX S.1 j).take i → ∀ σ', isMd S σ' → (if blF (rqX S.1 j) i - amt S.1 (jm S.1 j (S.1.2.1 5 j 5)) (S.1.1 5) < 1 then Post (some (.int (iI (-2)))) σ' else Post (some (.int (iI (blF (rqX S.1 j) i - amt S.1 (jm S.1 j (S.1.2.1 5 j 5)) (S.1.1 5))))) σ') := by
        intro ht σ' hσ
        have hg := bl_gl hx.1 i hi
        have hmf : mostF S.1 j u = min 9999 (max 0 (blF (rqX S.1 j) i) - amt S.1 (jm S.1 j (S.1.2.1 5 j 5)) (S.1.1 5)) := by
          unfold mostF; rw [ht, hg]
        rw [hmf] at hK
        split
        · next q => rw [if_pos (by omega)] at hK; exact hP1 _ _ (hK _ hσ)
        · next q =>
          rw [if_neg (by omega), show min 9999 (max 0 (blF (rqX S.1 j) i) - amt S.1 (jm S.1 j (S.1.2.1 5 j 5)) (S.1.1 5)) = blF (rqX S.1 j) i - amt S.1 (jm S.1 j (S.1.2.1 5 j 5)) (S.1.1 5) by omega] at hK
          exact hP1 _ _ (hK _ hσ)
      have ende : (rqX S.1 j).take (u + 1).toNat = (rqX S.1 j).take i → AW l 200 40 0 0 11 none Post 127 [some (.ref 0), some (.int (iI (j : Int))), some (.int (iI u)), some (.int (iI (amt S.1 (jm S.1 j (S.1.2.1 5 j 5)) (S.1.1 5)))), some (.int (iI (blF (rqX S.1 j) i))), some (.int (iI (i : Int)))] [] (wMd now was kept isk ln sp ls ld tb rd (iI S.2.1.length) (iI (-1)) (iI (-1)) ak vn dy asd lma lim rea (iI (rqX S.1 j).length) (bI (decide (lC (rqX S.1 j) 10000 4 = 0))) (iI S.2.2.2.1) spo wro num nuA stl spe wan fou) 0 0 := by
        intro ht
        refine AW.go (bs := b_Mod_most) [] 60 t_Mod_most ?_
        show _ ∧ _
        rw [iI_sub]
        have hf := fin ht (wMd now was kept isk ln sp ls ld tb rd (iI S.2.1.length) (iI (-1)) (iI (-1)) ak vn dy asd lma lim rea (iI (rqX S.1 j).length) (bI (decide (lC (rqX S.1 j) 10000 4 = 0))) (iI S.2.2.2.1) spo wro num nuA stl spe wan fou) (isMd.mk hOS hMR)
        refine And.symm (And.intro (fun h => ?_) (fun h => ?_))
        · rw [zn_i, zc_ge (by omega) (by omega) (by omega) (by omega)] at h
          rw [if_pos (by omega)] at hf
          exact hf
        · rw [zn_i, zc_ge (by omega) (by omega) (by omega) (by omega)] at h
          rw [if_neg (by omega)] at hf
          exact hf
      refine AW.go (bs := b_Mod_most) [58, 127] 90 t_Mod_most ?_
      refine And.intro (fun h => ?_) (fun h => ?_)
      · rw [zc_ge (by omega) (by omega) (by omega) (by omega)] at h
        exact ende (by rw [List.take_of_length_le (by omega), List.take_of_length_le (by omega)])
      rw [zc_ge (by omega) (by omega) (by omega) (by omega)] at h
      refine And.intro (fun h2 => ?_) (fun h2 => ?_)
      · rw [zc_gt (by omega) (by omega) u1 u2] at h2
        exact ende (by congr 1; omega)
      rw [zc_gt (by omega) (by omega) u1 u2] at h2
      obtain ⟨e, he⟩ : ∃ e, (rqX S.1 j)[i]? = some e := ⟨_, List.getElem?_eq_getElem (by omega)⟩
      have heo := hx.1 e (List.mem_of_getElem? he)
      have s2 := sC_rng heo 0 2
      have s3 := sC_rng heo 0 3
      have ei : ∀ c : Nat, c < 6 → z_nn 6 0 * iI (i : Int) + z_nn c 0 = iI ((6 * i + c : Nat) : Int) := fun c hc => by rw [zn_i, zn_i, iI_mul, iI_add]; rfl
      have v2 : sp (6 * i + 2) = iI (sC e 0 2) := by rw [(hRR i e he).1 2 (by omega), sC_w e 10000 0 2 (by omega)]
      have v3 : sp (6 * i + 3) = iI (sC e 0 3) := by rw [(hRR i e he).1 3 (by omega), sC_w e 10000 0 3 (by omega)]
      have ebl : blF (rqX S.1 j) (i + 1) = if sC e 0 2 ≠ -2 ∧ blF (rqX S.1 j) i < sC e 0 3 then sC e 0 3 else blF (rqX S.1 j) i := by rw [blF, he]
      show _ ∧ _
      rw [ei 2 (by omega)]
      refine And.intro (zN_in (by omega) (by omega)) ?_
      show _ ∧ _
      rw [zN_cl (by omega), v2]
      refine And.intro (fun h3 => ?_) (fun h3 => ?_)
      · have h3 := (zc_eq (b := -2) (by omega) (by omega) (by omega) (by omega)).mp h3
        exact ih _ (by omega) (i + 1) _ _ _ _ _ _ _ _ _ _ _ _ _ _ _ hrt0 rfl (by omega) (by omega) rfl (by rw [ebl, if_neg (fun q => q.1 h3)]) (zn_inc i)
      have h3 := mt (zc_eq (a := sC e 0 2) (b := -2) (by omega) (by omega) (by omega) (by omega)).mpr h3
      show _ ∧ _
      rw [ei 3 (by omega)]
      refine And.intro (zN_in (by omega) (by omega)) ?_
      show _ ∧ _
      rw [zN_cl (by omega), v3]
      refine And.intro (fun h4 => ?_) (fun h4 => ?_)
      · rw [zc_le (by omega) (by omega) (by omega) (by omega)] at h4
        exact ih _ (by omega) (i + 1) _ _ _ _ _ _ _ _ _ _ _ _ _ _ _ hrt0 rfl (by omega) (by omega) rfl (by rw [ebl, if_neg (fun q => by omega)]) (zn_inc i)
      rw [zc_le (by omega) (by omega) (by omega) (by omega)] at h4
      show _ ∧ _
      rw [ei 3 (by omega)]
      refine And.intro (zN_in (by omega) (by omega)) ?_
      show AW _ _ _ _ _ _ _ _ _ _ _ _ _ _
      rw [zN_cl (by omega), v3]
      exact ih _ (by omega) (i + 1) _ _ _ _ _ _ _ _ _ _ _ _ _ _ _ hrt0 rfl (by omega) (by omega) rfl (by rw [ebl, if_pos ⟨h3, by omega⟩]) (zn_inc i)
  refine AW.go (bs := b_Mod_most) [58] 90 t_Mod_most ?_
  refine ⟨_, v_misRequest l, by decide, _, _, _, _, _, _, _, _, _, _, _, _, _, _, _, _, _, _, _, _, _, _, _, _, _, _, _, _, _, _, _, S.1, rfl, hN, hO, r, rfl, ⟨r1, r2⟩, ?_⟩
  refine And.intro (fun h => ?_) (fun h => ?_)
  · rw [zc_beq, decide_eq_false_iff_not] at h; exact fail () (by omega)
  rw [zc_beq, decide_eq_false_iff_not, Classical.not_not] at h
  obtain ⟨j, rfl⟩ : ∃ j : Nat, r = (j : Int) := ⟨r.toNat, by omega⟩
  have hr : j < S.1.1 5 := by omega
  have hc := hO.2.2.2.2.2.1 j hr
  have hw := whF_rng hO hr (S.1.2.1 5 j 5)
  have hwq : 1 ≤ wq S.1 j ∧ wq S.1 j ≤ 500000 := hw
  have hq := rq_ok hO hr
  obtain ⟨o, ho⟩ : ∃ o : Nat, S.1.2.1 5 j 1 = (o : Int) := ⟨(S.1.2.1 5 j 1).toNat, by omega⟩
  have ho4 : o < S.1.1 4 := by omega
  have hup := upN_le S.1 12 (S.1.2.1 4 o 0)
  have hjo : S.1.2.1 5 (j : Int).toNat 1 = (o : Int) := ho
  refine ⟨_, v_mof l, by decide, _, _, _, _, _, _, _, _, _, _, _, _, _, _, _, _, _, _, _, _, _, _, _, _, _, _, _, _, _, _, _, S.1, rfl, hN, hO, j, 1, rfl, hr, by omega, ?_⟩
  show ∃ sp : Sp, _
  rw [ho]
  refine ⟨_, v_maboveOf l, by decide, _, _, _, _, _, _, _, _, _, _, _, _, _, _, _, _, _, _, _, _, _, _, _, _, _, _, _, _, _, _, _, S.1, rfl, hN, hO, o, rfl, ho4, ?_⟩
  refine ⟨_, v_in l, by decide, rfl, u, 0, (upN S.1 12 (S.1.2.1 4 o 0) : Int), _, _, _, rfl, l_i u1 u2, l_0, l_i (by omega) (by omega), ⟨by omega, by omega⟩, ⟨by omega, by omega⟩, ⟨by omega, by omega⟩, ?_⟩
  refine And.symm (And.intro (fun h => ?_) (fun h => ?_))
  · rw [zc_bne, decide_eq_true_eq] at h
    exact fail () (by rw [hjo, Int.toNat_natCast]; omega)
  rw [zc_bne, decide_eq_true_eq] at h
  have hamt := amt_rng hO (jm S.1 j (S.1.2.1 5 j 5)) (n := S.1.1 5) (Nat.le_refl _)
  refine ⟨_, v_mwholeOf l, by decide, _, _, _, _, _, _, _, _, _, _, _, _, _, _, _, _, _, _, _, _, _, _, _, _, _, _, _, _, _, _, _, S.1, rfl, hN, hO, j, rfl, hr, ?_⟩
  refine ⟨_, v_mof l, by decide, _, _, _, _, _, _, _, _, _, _, _, _, _, _, _, _, _, _, _, _, _, _, _, _, _, _, _, _, _, _, _, S.1, rfl, hN, hO, j, 4, rfl, hr, by omega, ?_⟩
  refine ⟨_, v_mroutesBy l, by decide, _, _, _, _, _, _, _, _, _, _, _, 0, 0, _, _, _, _, _, _, _, _, _, _, _, _, _, _, _, _, _, _, S.1, j, -1, -1, 10000, rfl, rfl, hN, hO, hr, ⟨by omega, by omega⟩, ⟨by omega, by omega⟩, ⟨by omega, by omega⟩, fun sp ls ln ak vn dy asd lma lim rea sts apr hrt => ?_⟩
  have etop : routeF S.1 (mtG S.1 j (-1) (-1)) 10000 12 (S.1.2.1 5 j 1) (S.1.2.1 5 j 5) = rqX S.1 j := routeF_top hO (mtR_ok hO hr) (by omega) 12 _ _ (by omega)
  rw [etop] at hrt
  refine loop j rfl ⟨by omega, by omega, by omega, by rw [hjo, Int.toNat_natCast]; omega⟩ _ 0 _ _ _ _ _ _ _ _ _ _ _ _ _ _ _ hrt rfl (by omega) (by omega) ?_ rfl rfl
  rw [iI_sub]; congr 1; unfold wq whF; omega
