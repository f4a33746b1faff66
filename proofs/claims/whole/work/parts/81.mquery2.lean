set_option maxRecDepth 20000 in
theorem v_mstep (l : Launch) : z_V l 188 (m3 40 (qp3 q_step)) := by
  refine z_V.ofP (by decide +kernel) ?_
  rintro as σ K Post ⟨S, ⟨hOS, now, was, kept, isk, ln, sp, ls, ld, tb, rd, und, gon, lef, ak, vn, dy, asd, lma, lim, rea, sts, apr, tz, spo, wro, num, nuA, stl, spe, wan, fou, rfl, hMR⟩, r, k, c, rfl, ⟨r1, r2⟩, ⟨k1, k2⟩, ⟨c1, c2⟩, hK⟩ hP1 hP0
  obtain ⟨hN, h2_, rfl, h4_, h5_, h6_, h7_, rfl, rfl, rfl, h11_⟩ := id hMR
  have hO := hOS.1
  have hx4 := hO.2.2.2.2.2.2.2.2.2 4 (by omega)
  rw [x_4] at hx4
  have hx5 := hO.2.2.2.2.2.2.2.2.2 5 (by omega)
  rw [x_5] at hx5
  unfold qp3 q_step at hK
  simp only [] at hK
  refine AW.go (bs := b_Mod_step) [29] 60 t_Mod_step ?_
  refine ⟨_, v_misRequest l, by decide, _, _, _, _, _, _, _, _, _, _, _, _, _, _, _, _, _, _, _, _, _, _, _, _, _, _, _, _, _, _, _, S.1, rfl, hN, hO, r, rfl, ⟨r1, r2⟩, ?_⟩
  refine And.symm (And.intro (fun h => ?_) (fun h => ?_))
  · rw [zc_bne, decide_eq_true_eq] at h
    rw [if_neg h] at hK
    exact hP1 _ _ (hK _ (isMd.mk hOS hMR))
  rw [zc_bne, decide_eq_true_eq] at h
  rw [if_pos h] at hK
  obtain ⟨j, rfl⟩ : ∃ j : Nat, r = (j : Int) := ⟨r.toNat, by omega⟩
  rw [Int.toNat_natCast] at hK
  have hr : j < S.1.1 5 := by omega
  have hc := hO.2.2.2.2.2.1 j hr
  have hw := whF_rng hO hr (S.1.2.1 5 j 5)
  have hwq : 1 ≤ wq S.1 j ∧ wq S.1 j ≤ 500000 := hw
  have hq := rq_ok hO hr
  refine ⟨_, v_mroutes l, by decide, _, _, _, _, _, _, _, _, _, _, _, 0, 0, _, _, _, _, _, _, _, _, _, _, _, _, _, _, _, _, _, _, S.1, j, -1, -1, rfl, rfl, hN, hO, hr, ⟨by omega, by omega⟩, ⟨by omega, by omega⟩, fun sp ls ln ak vn dy asd lma lim rea sts apr hrt => ?_⟩
  have hrt0 : mRt (rq S.1 j) (wq S.1 j) sp ls sts apr := hrt
  have hne : rq S.1 j ≠ [] := routeF_ne (by omega) (by omega) (by omega)
  obtain ⟨hRR, rfl, rfl⟩ := hrt0
  have hl := hq.2
  have tail : ¬ (k = -1 ∧ c = 0) → AW l 188 40 0 0 11 none Post 29 [some (.ref 0), some (.int (iI (j : Int))), some (.int (iI k)), some (.int (iI c))] [] (wMd now was kept isk ln sp ls ld tb rd (iI S.2.1.length) (iI (-1)) (iI (-1)) ak vn dy asd lma lim rea (iI (rq S.1 j).length) (bI (decide (lC (rq S.1 j) (wq S.1 j) 4 = 0))) (iI S.2.2.2.1) spo wro num nuA stl spe wan fou) 0 0 := by
    intro hn
    refine AW.go (bs := b_Mod_step) [] 60 t_Mod_step ?_
    show ∃ sp : Sp, _
    rw [zn_i 1, iI_sub]
    refine ⟨_, v_in l, by decide, rfl, k, 0, ((rq S.1 j).length : Int) - 1, _, _, _, rfl, l_i k1 k2, l_0, l_i (by omega) (by omega), ⟨by omega, by omega⟩, ⟨by omega, by omega⟩, ⟨by omega, by omega⟩, ?_⟩
    have bad : ¬ (0 ≤ k ∧ k < (rq S.1 j).length ∧ 0 ≤ c ∧ c < 6) → K (some (.int (iI (-1)))) = K (some (.int (iI (q_step S.1 (j : Int) k c)))) := by
      intro hb
      congr 3
      unfold q_step
      rw [if_pos (by omega), Int.toNat_natCast]
      by_cases e : k = -1
      · rw [if_pos e, if_neg (fun q => hn ⟨e, q⟩)]
      · rw [if_neg e, if_neg hb]
    have fin : ¬ (0 ≤ k ∧ k < (rq S.1 j).length ∧ 0 ≤ c ∧ c < 6) → K (some (.int (iI (-1)))) (some (wMd now was kept isk ln sp ls ld tb rd (iI S.2.1.length) (iI (-1)) (iI (-1)) ak vn dy asd lma lim rea (iI (rq S.1 j).length) (bI (decide (lC (rq S.1 j) (wq S.1 j) 4 = 0))) (iI S.2.2.2.1) spo wro num nuA stl spe wan fou)) := by
      intro hb
      rw [bad hb]
      unfold q_step
      rw [if_pos (by omega), Int.toNat_natCast]
      exact hK _ (isMd.mk hOS hMR)
    refine And.intro (fun h => ?_) (fun h => ?_)
    · rw [zc_beq, decide_eq_false_iff_not] at h
      exact hP1 _ _ (fin (by omega))
    rw [zc_beq, decide_eq_false_iff_not, Classical.not_not] at h
    refine ⟨_, v_in l, by decide, rfl, c, 0, 5, _, _, _, rfl, l_i c1 c2, l_0, l_k 5, ⟨by omega, by omega⟩, ⟨by omega, by omega⟩, ⟨by omega, by omega⟩, ?_⟩
    refine And.intro (fun h2 => ?_) (fun h2 => ?_)
    · rw [zc_beq, decide_eq_false_iff_not] at h2
      exact hP1 _ _ (fin (by omega))
    rw [zc_beq, decide_eq_false_iff_not, Classical.not_not] at h2
    rw [if_neg (by omega), if_pos (by omega)] at hK
    obtain ⟨i, rfl⟩ : ∃ i : Nat, k = (i : Int) := ⟨k.toNat, by omega⟩
    obtain ⟨q, rfl⟩ : ∃ q : Nat, c = (q : Int) := ⟨c.toNat, by omega⟩
    rw [Int.toNat_natCast, Int.toNat_natCast] at hK
    obtain ⟨e, he⟩ : ∃ e, (rq S.1 j)[i]? = some e := ⟨_, List.getElem?_eq_getElem (by omega)⟩
    rw [he] at hK
    have ei : z_nn 6 0 * iI (i : Int) + iI (q : Int) = iI ((6 * i + q : Nat) : Int) := by rw [zn_i, iI_mul, iI_add]; rfl
    show _ ∧ _
    rw [ei]
    refine And.intro (zN_in (by omega) (by omega)) ?_
    show Post _ _
    rw [zN_cl (by omega), (hRR i e he).1 q (by omega)]
    exact hP1 _ _ (hK _ (isMd.mk hOS hMR))
  refine And.symm (And.intro (fun h => ?_) (fun h => ?_))
  · have h := (zc_eq (b := -1) k1 k2 (by omega) (by omega)).mp (Classical.not_not.mp h)
    refine And.symm (And.intro (fun h2 => ?_) (fun h2 => ?_))
    · rw [zc_ne0 c1 c2, Classical.not_not] at h2
      rw [if_pos h, if_pos h2] at hK
      exact hP1 _ _ (hK _ (isMd.mk hOS hMR))
    · rw [zc_ne0 c1 c2] at h2
      exact tail (fun q => h2 q.2)
  · have h := mt (zc_eq (b := -1) k1 k2 (by omega) (by omega)).mpr (fun q => h q)
    exact tail (fun q => h q.1)
set_option maxRecDepth 20000 in
theorem v_mchain (l : Launch) : z_V l 189 (m3 40 (qp3 q_chain)) := by
  refine z_V.ofP (by decide +kernel) ?_
  rintro as σ K Post ⟨S, ⟨hOS, now, was, kept, isk, ln, sp, ls, ld, tb, rd, und, gon, lef, ak, vn, dy, asd, lma, lim, rea, sts, apr, tz, spo, wro, num, nuA, stl, spe, wan, fou, rfl, hMR⟩, r, k, c, rfl, ⟨r1, r2⟩, ⟨k1, k2⟩, ⟨c1, c2⟩, hK⟩ hP1 hP0
  obtain ⟨hN, h2_, rfl, h4_, h5_, h6_, h7_, rfl, rfl, rfl, h11_⟩ := id hMR
  have hO := hOS.1
  have hx4 := hO.2.2.2.2.2.2.2.2.2 4 (by omega)
  rw [x_4] at hx4
  have hx5 := hO.2.2.2.2.2.2.2.2.2 5 (by omega)
  rw [x_5] at hx5
  unfold qp3 q_chain at hK
  simp only [] at hK
  refine AW.go (bs := b_Mod_chain) [] 60 t_Mod_chain ?_
  refine ⟨_, v_misRequest l, by decide, _, _, _, _, _, _, _, _, _, _, _, _, _, _, _, _, _, _, _, _, _, _, _, _, _, _, _, _, _, _, _, S.1, rfl, hN, hO, r, rfl, ⟨r1, r2⟩, ?_⟩
  refine And.symm (And.intro (fun h => ?_) (fun h => ?_))
  · rw [zc_bne, decide_eq_true_eq] at h
    rw [if_neg (by omega)] at hK
    exact hP1 _ _ (hK _ (isMd.mk hOS hMR))
  rw [zc_bne, decide_eq_true_eq] at h
  obtain ⟨j, rfl⟩ : ∃ j : Nat, r = (j : Int) := ⟨r.toNat, by omega⟩
  rw [Int.toNat_natCast] at hK
  have hr : j < S.1.1 5 := by omega
  have hc := hO.2.2.2.2.2.1 j hr
  have hw := whF_rng hO hr (S.1.2.1 5 j 5)
  have hwq : 1 ≤ wq S.1 j ∧ wq S.1 j ≤ 500000 := hw
  have hq := rq_ok hO hr
  refine ⟨_, v_mroutes l, by decide, _, _, _, _, _, _, _, _, _, _, _, 0, 0, _, _, _, _, _, _, _, _, _, _, _, _, _, _, _, _, _, _, S.1, j, -1, -1, rfl, rfl, hN, hO, hr, ⟨by omega, by omega⟩, ⟨by omega, by omega⟩, fun sp ls ln ak vn dy asd lma lim rea sts apr hrt => ?_⟩
  have hrt0 : mRt (rq S.1 j) (wq S.1 j) sp ls sts apr := hrt
  have hne : rq S.1 j ≠ [] := routeF_ne (by omega) (by omega) (by omega)
  obtain ⟨hRR, rfl, rfl⟩ := hrt0
  have hl := hq.2
  show ∃ sp : Sp, _
  rw [zn_i 1, iI_sub]
  refine ⟨_, v_in l, by decide, rfl, k, 0, ((rq S.1 j).length : Int) - 1, _, _, _, rfl, l_i k1 k2, l_0, l_i (by omega) (by omega), ⟨by omega, by omega⟩, ⟨by omega, by omega⟩, ⟨by omega, by omega⟩, ?_⟩
  refine And.intro (fun h2 => ?_) (fun h2 => ?_)
  · rw [zc_beq, decide_eq_false_iff_not] at h2
    by_cases hc0 : 0 ≤ c
    · rw [if_pos (by omega), if_neg (by omega)] at hK
      exact hP1 _ _ (hK _ (isMd.mk hOS hMR))
    · rw [if_neg (by omega)] at hK
      exact hP1 _ _ (hK _ (isMd.mk hOS hMR))
  rw [zc_beq, decide_eq_false_iff_not, Classical.not_not] at h2
  refine And.symm (And.intro (fun h3 => ?_) (fun h3 => ?_))
  · rw [zc_ge0 c1 c2] at h3
    rw [if_neg (by omega)] at hK
    exact hP1 _ _ (hK _ (isMd.mk hOS hMR))
  rw [zc_ge0 c1 c2] at h3
  rw [if_pos (by omega), if_pos (by omega)] at hK
  obtain ⟨i, rfl⟩ : ∃ i : Nat, k = (i : Int) := ⟨k.toNat, by omega⟩
  obtain ⟨q, rfl⟩ : ∃ q : Nat, c = (q : Int) := ⟨c.toNat, by omega⟩
  rw [Int.toNat_natCast] at hK
  obtain ⟨e, he⟩ : ∃ e, (rq S.1 j)[i]? = some e := ⟨_, List.getElem?_eq_getElem (by omega)⟩
  rw [he] at hK
  simp only [] at hK
  have heo := hq.1 e (List.mem_of_getElem? he)
  have h5 := sC_rng heo (wq S.1 j) 5
  have ei : z_nn 6 0 * iI (i : Int) + z_nn 5 0 = iI ((6 * i + 5 : Nat) : Int) := by rw [zn_i, zn_i, iI_mul, iI_add]; rfl
  show _ ∧ _
  rw [ei]
  refine And.intro (zN_in (by omega) (by omega)) ?_
  show _ ∧ _
  rw [zN_cl (by omega), (hRR i e he).1 5 (by omega)]
  cases hd : e.2.2.1 with
  | none =>
    rw [hd] at hK
    have e5 : sC e (wq S.1 j) 5 = -2 := by simp [sC, hd]
    refine And.intro (fun h => ?_) (fun h => ?_)
    · exact hP1 _ _ (hK _ (isMd.mk hOS hMR))
    · rw [zc_gt c1 c2 (by omega) (by omega)] at h; omega
  | some z =>
    obtain ⟨x, L⟩ := z
    rw [hd] at hK
    simp only [Int.toNat_natCast] at hK
    have e5 : sC e (wq S.1 j) 5 = (L.length : Int) - 1 := by simp [sC, hd]
    obtain ⟨g1, g2, g3, g4, g5⟩ := heo.2.2.2.1 x L hd
    refine And.intro (fun h => ?_) (fun h => ?_)
    · rw [zc_gt c1 c2 (by omega) (by omega)] at h
      rw [if_neg (by omega)] at hK
      exact hP1 _ _ (hK _ (isMd.mk hOS hMR))
    · rw [zc_gt c1 c2 (by omega) (by omega)] at h
      rw [if_pos (by omega)] at hK
      obtain ⟨y, hy⟩ : ∃ y, L[q]? = some y := ⟨_, List.getElem?_eq_getElem (by omega)⟩
      rw [hy] at hK
      have ej : z_nn 16 0 * iI (i : Int) + iI (q : Int) = iI ((16 * i + q : Nat) : Int) := by rw [zn_i, iI_mul, iI_add]; rfl
      show _ ∧ _
      rw [ej]
      refine And.intro (zN_in (by omega) (by omega)) ?_
      show Post _ _
      rw [zN_cl (by omega), (hRR i e he).2 x L hd q y hy]
      exact hP1 _ _ (hK _ (isMd.mk hOS hMR))
set_option maxRecDepth 20000 in
theorem v_mends (l : Launch) : z_V l 190 (m2 40 (qp2 q_ends)) := by
  refine z_V.ofP (by decide +kernel) ?_
  rintro as σ K Post ⟨S, ⟨hOS, now, was, kept, isk, ln, sp, ls, ld, tb, rd, und, gon, lef, ak, vn, dy, asd, lma, lim, rea, sts, apr, tz, spo, wro, num, nuA, stl, spe, wan, fou, rfl, hMR⟩, r, c, rfl, ⟨r1, r2⟩, ⟨c1, c2⟩, hK⟩ hP1 hP0
  obtain ⟨hN, h2_, rfl, h4_, h5_, h6_, h7_, rfl, rfl, rfl, h11_⟩ := id hMR
  have hO := hOS.1
  have hx4 := hO.2.2.2.2.2.2.2.2.2 4 (by omega)
  rw [x_4] at hx4
  have hx5 := hO.2.2.2.2.2.2.2.2.2 5 (by omega)
  rw [x_5] at hx5
  unfold qp2 q_ends at hK
  simp only [] at hK
  have fail : Unit → ¬ (0 ≤ r ∧ r < S.1.1 5 ∧ 0 ≤ c ∧ c ≤ 3) → Post (some (.int (iI (-1)))) (wMd now was kept isk ln sp ls ld tb rd (iI S.2.1.length) (iI (-1)) (iI (-1)) ak vn dy asd lma lim rea sts apr (iI S.2.2.2.1) spo wro num nuA stl spe wan fou) := by
    intro _ hn; rw [if_neg hn] at hK; exact hP1 _ _ (hK _ (isMd.mk hOS hMR))
  refine AW.go (bs := b_Mod_ends) [] 60 t_Mod_ends ?_
  refine ⟨_, v_misRequest l, by decide, _, _, _, _, _, _, _, _, _, _, _, _, _, _, _, _, _, _, _, _, _, _, _, _, _, _, _, _, _, _, _, S.1, rfl, hN, hO, r, rfl, ⟨r1, r2⟩, ?_⟩
  refine And.intro (fun h => ?_) (fun h => ?_)
  · rw [zc_beq, decide_eq_false_iff_not] at h; exact fail () (by omega)
  rw [zc_beq, decide_eq_false_iff_not, Classical.not_not] at h
  refine ⟨_, v_in l, by decide, rfl, c, 0, 3, _, _, _, rfl, l_i c1 c2, l_0, l_k 3, ⟨by omega, by omega⟩, ⟨by omega, by omega⟩, ⟨by omega, by omega⟩, ?_⟩
  refine And.symm (And.intro (fun h => ?_) (fun h => ?_))
  · rw [zc_bne, decide_eq_true_eq] at h; exact fail () (by omega)
  rw [zc_bne, decide_eq_true_eq] at h
  rw [if_pos (by omega)] at hK
  obtain ⟨j, rfl⟩ : ∃ j : Nat, r = (j : Int) := ⟨r.toNat, by omega⟩
  rw [Int.toNat_natCast] at hK
  have hr : j < S.1.1 5 := by omega
  have hc := hO.2.2.2.2.2.1 j hr
  have hw := whF_rng hO hr (S.1.2.1 5 j 5)
  have hwq : 1 ≤ wq S.1 j ∧ wq S.1 j ≤ 500000 := hw
  have hq := rq_ok hO hr
  refine ⟨_, v_mroutes l, by decide, _, _, _, _, _, _, _, _, _, _, _, 0, 0, _, _, _, _, _, _, _, _, _, _, _, _, _, _, _, _, _, _, S.1, j, -1, -1, rfl, rfl, hN, hO, hr, ⟨by omega, by omega⟩, ⟨by omega, by omega⟩, fun sp ls ln ak vn dy asd lma lim rea sts apr hrt => ?_⟩
  have hrt0 : mRt (rq S.1 j) (wq S.1 j) sp ls sts apr := hrt
  have hne : rq S.1 j ≠ [] := routeF_ne (by omega) (by omega) (by omega)
  obtain ⟨hRR, rfl, rfl⟩ := hrt0
  have hrt1 : mRt (rq S.1 j) (wq S.1 j) sp ls (iI (rq S.1 j).length) (bI (decide (lC (rq S.1 j) (wq S.1 j) 4 = 0))) := ⟨hRR, rfl, rfl⟩
  refine And.symm (And.intro (fun h => ?_) (fun h => ?_))
  · rw [zn_i, zc_ne c1 c2 (by omega) (by omega), Classical.not_not] at h
    rw [if_pos (by omega)] at hK
    refine ⟨_, v_mlast l, by decide, _, _, _, _, _, _, _, _, _, _, _, _, _, _, _, _, _, _, _, _, _, _, _, _, _, _, _, _, _, _, _, wq S.1 j, rq S.1 j, rfl, hrt1, hq.2, hne, 0, rfl, by omega, ?_⟩
    exact hP1 _ _ (hK _ (isMd.mk hOS hMR))
  rw [zn_i, zc_ne c1 c2 (by omega) (by omega)] at h
  rw [if_neg (by omega)] at hK
  refine ⟨_, v_misRecalled l, by decide, _, _, _, _, _, _, _, _, _, _, _, _, _, _, _, _, _, _, _, _, _, _, _, _, _, _, _, _, _, _, _, S.1, rfl, hN, hO, j, rfl, hr, ?_⟩
  refine And.intro (fun h => ?_) (fun h => ?_)
  · rw [zc_beq, recd, decide_eq_false_iff_not] at h
    rw [if_neg h] at hK
    refine ⟨_, v_mendBy l, by decide, _, _, _, _, _, _, _, _, _, _, _, _, _, _, _, _, _, _, _, _, _, _, _, _, _, _, _, _, _, _, _, wq S.1 j, rq S.1 j, rfl, hrt1, hq.2, hne, c, rfl, ⟨c1, c2⟩, by omega, ?_⟩
    exact hP1 _ _ (hK _ (isMd.mk hOS hMR))
  rw [zc_beq, recd, decide_eq_false_iff_not, Classical.not_not] at h
  rw [if_pos h] at hK
  refine And.symm (And.intro (fun h => ?_) (fun h => ?_))
  · rw [zc_ne0 c1 c2, Classical.not_not] at h
    rw [if_pos h] at hK
    exact hP1 _ _ (hK _ (isMd.mk hOS hMR))
  rw [zc_ne0 c1 c2] at h
  rw [if_neg h] at hK
  refine And.symm (And.intro (fun h => ?_) (fun h => ?_))
  · rw [zn_i, zc_ne c1 c2 (by omega) (by omega), Classical.not_not] at h
    rw [if_pos (by omega)] at hK
    refine ⟨_, v_mof l, by decide, _, _, _, _, _, _, _, _, _, _, _, _, _, _, _, _, _, _, _, _, _, _, _, _, _, _, _, _, _, _, _, S.1, rfl, hN, hO, j, 6, rfl, hr, by omega, ?_⟩
    exact hP1 _ _ (hK _ (isMd.mk hOS hMR))
  · rw [zn_i, zc_ne c1 c2 (by omega) (by omega)] at h
    rw [if_neg (by omega)] at hK
    exact hP1 _ _ (hK _ (isMd.mk hOS hMR))
set_option maxRecDepth 20000 in
theorem v_mdecides (l : Launch) : z_V l 193 (m4 40 (qp4 q_decides)) := by
  refine z_V.ofP (by decide +kernel) ?_
  rintro as σ K Post ⟨S, ⟨hOS, now, was, kept, isk, ln, sp, ls, ld, tb, rd, und, gon, lef, ak, vn, dy, asd, lma, lim, rea, sts, apr, tz, spo, wro, num, nuA, stl, spe, wan, fou, rfl, hMR⟩, o, y, p, q, rfl, ⟨o1, o2⟩, ⟨y1, y2⟩, ⟨p1, p2⟩, ⟨q1, q2⟩, hK⟩ hP1 hP0
  obtain ⟨hN, h2_, rfl, h4_, h5_, h6_, h7_, rfl, rfl, rfl, h11_⟩ := id hMR
  have hO := hOS.1
  have hx4 := hO.2.2.2.2.2.2.2.2.2 4 (by omega)
  rw [x_4] at hx4
  have hx5 := hO.2.2.2.2.2.2.2.2.2 5 (by omega)
  rw [x_5] at hx5
  unfold qp4 q_decides at hK
  simp only [] at hK
  have fail : Unit → ¬ (0 ≤ o ∧ o < S.1.1 4 ∧ 0 ≤ y ∧ y ≤ 999 ∧ 0 ≤ q ∧ q ≤ 29 ∧ (p = -1 ∨ (0 ≤ p ∧ p ≤ 15))) → Post (some (.int (iI (-1)))) (wMd now was kept isk ln sp ls ld tb rd (iI S.2.1.length) (iI (-1)) (iI (-1)) ak vn dy asd lma lim rea sts apr (iI S.2.2.2.1) spo wro num nuA stl spe wan fou) := by
    intro _ hn; rw [if_neg hn] at hK; exact hP1 _ _ (hK _ (isMd.mk hOS hMR))
  have tail : (0 ≤ o ∧ o < S.1.1 4 ∧ 0 ≤ y ∧ y ≤ 999 ∧ (p = -1 ∨ (0 ≤ p ∧ p ≤ 15))) → AW l 193 40 0 0 11 none Post 27 [some (.ref 0), some (.int (iI o)), some (.int (iI y)), some (.int (iI p)), some (.int (iI q)), none] [] (wMd now was kept isk ln sp ls ld tb rd (iI S.2.1.length) (iI (-1)) (iI (-1)) ak vn dy asd lma lim rea sts apr (iI S.2.2.2.1) spo wro num nuA stl spe wan fou) 0 0 := by
    intro hc
    refine AW.go (bs := b_Mod_decides) [] 60 t_Mod_decides ?_
    refine ⟨_, v_misWhich l, by decide, rfl, q, rfl, ⟨q1, q2⟩, ?_⟩
    refine And.symm (And.intro (fun h => ?_) (fun h => ?_))
    · rw [zc_bne, decide_eq_true_eq] at h; exact fail () (by omega)
    rw [zc_bne, decide_eq_true_eq] at h
    rw [if_pos (by omega)] at hK
    obtain ⟨j, rfl⟩ : ∃ j : Nat, o = (j : Int) := ⟨o.toNat, by omega⟩
    rw [Int.toNat_natCast] at hK
    have hj : j < S.1.1 4 := by omega
    have hm := mtQ_ok (p := p) (q := q) (by omega) (by omega) (by omega) (by omega)
    refine And.intro (by decide) ?_
    show ∃ sp : Sp, _
    rw [zn_i 10, iI_rem (by omega) (by omega) (by omega) (by omega)]
    refine ⟨_, v_masksFor l, by decide, _, _, _, _, _, _, _, _, _, _, _, _, _, _, _, _, _, _, _, _, _, _, _, _, _, _, _, _, _, _, _, _, _, rfl, rfl, ?_⟩
    refine And.intro (by decide) ?_
    show ∃ sp : Sp, _
    rw [zn_i 10, iI_div (by omega) (by omega) (by omega) (by omega)]
    refine ⟨_, v_mdecider l, by decide, _, _, _, _, _, _, _, _, _, _, _, 0, 0, 0, 0, _, _, _, _, _, _, _, _, _, _, _, _, _, _, _, _, S.1, mtQ p q, j, y, _, rfl, rfl, rfl, hN, hO, hm, hj, ⟨y1, y2⟩, fun ln' asd' lma' lim' rea' hres => ?_⟩
    cases hd : decF S.1 (mtQ p q) j y with
    | none =>
      rw [hd] at hK
      refine And.symm (And.intro (fun _ => ?_) (fun h => absurd rfl h))
      show Post _ _
      rw [hres.2 hd, show z_nn 2 1 = iI (-2) from rfl, iI_sub]
      exact hP1 _ _ (hK _ (isMd.mk hOS hMR))
    | some z =>
      obtain ⟨x, L⟩ := z
      rw [hd] at hK
      obtain ⟨g1, g2, g3, g4, g5⟩ := decF_ok hO hm hj hd
      have hlp := lastP_rng g5
      refine And.intro (fun _ => ?_) (fun h => absurd (fun q => ?_) h)
      · exact hP1 _ _ (hK _ (isMd.mk hOS hMR))
      · have := (zc_eq (a := lastP L) (b := -1) (by omega) (by omega) (by omega) (by omega)).mp q
        omega
  refine AW.go (bs := b_Mod_decides) [27] 60 t_Mod_decides ?_
  refine ⟨_, v_misPost l, by decide, _, _, _, _, _, _, _, _, _, _, _, _, _, _, _, _, _, _, _, _, _, _, _, _, _, _, _, _, _, _, _, S.1, rfl, hN, hO, o, rfl, ⟨o1, o2⟩, ?_⟩
  refine And.intro (fun h => ?_) (fun h => ?_)
  · rw [zc_beq, decide_eq_false_iff_not] at h; exact fail () (by omega)
  rw [zc_beq, decide_eq_false_iff_not, Classical.not_not] at h
  refine ⟨_, v_misDay l, by decide, rfl, y, rfl, ⟨y1, y2⟩, ?_⟩
  refine And.intro (fun h => ?_) (fun h => ?_)
  · rw [zc_beq, decide_eq_false_iff_not] at h; exact fail () (by omega)
  rw [zc_beq, decide_eq_false_iff_not, Classical.not_not] at h
  refine And.intro (fun h => ?_) (fun h => ?_)
  · have h := (zc_eq (b := -1) p1 p2 (by omega) (by omega)).mp h
    exact tail (by omega)
  have h := mt (zc_eq (b := -1) p1 p2 (by omega) (by omega)).mpr h
  refine ⟨_, v_misPerson l, by decide, rfl, p, rfl, ⟨p1, p2⟩, ?_⟩
  refine And.intro (fun h => ?_) (fun h => ?_)
  · rw [zc_beq, decide_eq_false_iff_not] at h; exact fail () (by omega)
  rw [zc_beq, decide_eq_false_iff_not, Classical.not_not] at h
  exact tail (by omega)
set_option maxRecDepth 20000 in
theorem v_mpower (l : Launch) : z_V l 194 (m3 40 (qp3 q_power)) := by
  refine z_V.ofP (by decide +kernel) ?_
  rintro as σ K Post ⟨S, ⟨hOS, now, was, kept, isk, ln, sp, ls, ld, tb, rd, und, gon, lef, ak, vn, dy, asd, lma, lim, rea, sts, apr, tz, spo, wro, num, nuA, stl, spe, wan, fou, rfl, hMR⟩, p, y, k, rfl, ⟨p1, p2⟩, ⟨y1, y2⟩, ⟨k1, k2⟩, hK⟩ hP1 hP0
  obtain ⟨hN, h2_, rfl, h4_, h5_, h6_, h7_, rfl, rfl, rfl, h11_⟩ := id hMR
  have hO := hOS.1
  have hx4 := hO.2.2.2.2.2.2.2.2.2 4 (by omega)
  rw [x_4] at hx4
  have hx5 := hO.2.2.2.2.2.2.2.2.2 5 (by omega)
  rw [x_5] at hx5
  unfold qp3 q_power at hK
  simp only [] at hK
  have fail : Unit → ¬ (0 ≤ p ∧ p ≤ 15 ∧ 0 ≤ y ∧ y ≤ 999 ∧ 0 ≤ k ∧ k ≤ 2) → Post (some (.int (iI (-1)))) (wMd now was kept isk ln sp ls ld tb rd (iI S.2.1.length) (iI (-1)) (iI (-1)) ak vn dy asd lma lim rea sts apr (iI S.2.2.2.1) spo wro num nuA stl spe wan fou) := by
    intro _ hn; rw [if_neg hn] at hK; exact hP1 _ _ (hK _ (isMd.mk hOS hMR))
  have loop : (0 ≤ p ∧ p ≤ 15 ∧ 0 ≤ y ∧ y ≤ 999 ∧ 0 ≤ k ∧ k ≤ 2) → ∀ (n i : Nat) (x4 x5 : Int32) (ln : Nat → Int32) (dy asd lma lim rea : Int32), n = S.1.1 4 - i → i ≤ S.1.1 4 → x4 = iI (pwF S.1 p y k i) → x5 = iI (i : Int) →
      AW l 194 40 0 0 11 none Post 41 [some (.ref 0), some (.int (iI p)), some (.int (iI y)), some (.int (iI k)), some (.int x4), some (.int x5)] [] (wMd now was kept isk ln sp ls ld tb rd (iI S.2.1.length) (iI (-1)) (iI (-1)) (iI (-1)) (iI (-1)) dy asd lma lim rea sts apr (iI S.2.2.2.1) spo wro num nuA stl spe wan fou) 0 0 := by
    intro hc n
    rw [if_pos hc] at hK
    have hm := mtK_ok hc.2.2.2.2.1 hc.2.2.2.2.2
    induction n using Nat.strongRecOn with
    | ind n ih =>
      intro i x4 x5 ln dy asd lma lim rea hn hi e4 e5
      subst e4; subst e5
      refine AW.go (bs := b_Mod_power) [41] 60 t_Mod_power ?_
      refine ⟨_, v_mposts l, by decide, _, _, _, _, _, _, _, _, _, _, _, _, _, _, _, _, _, _, _, _, _, _, _, _, _, _, _, _, _, _, _, S.1, rfl, hN, hO, rfl, ?_⟩
      refine And.intro (fun h => ?_) (fun h => ?_)
      · rw [zc_ge (by omega) (by omega) (by omega) (by omega)] at h
        have : i = S.1.1 4 := by omega
        subst this
        exact hP1 _ _ (hK _ (isMd.mk hOS hMR))
      rw [zc_ge (by omega) (by omega) (by omega) (by omega)] at h
      have hi4 : i < S.1.1 4 := by omega
      have hpw := pwF_rng (p := p) (y := y) hO hc.2.2.2.2.1 hc.2.2.2.2.2 i hi
      refine ⟨_, v_mdecider l, by decide, _, _, _, _, _, _, _, _, _, _, _, 0, 0, 0, 0, _, _, _, _, _, _, _, _, _, _, _, _, _, _, _, _, S.1, mtK k, i, y, _, rfl, rfl, rfl, hN, hO, hm, hi4, ⟨y1, y2⟩, fun ln' asd' lma' lim' rea' hres => ?_⟩
      cases hd : decF S.1 (mtK k) i y with
      | none =>
        refine And.intro (fun _ => ?_) (fun h => ?_)
        · exact ih _ (by omega) (i + 1) _ _ _ _ _ _ _ _ rfl (by omega) (by rw [pwF, hd]) (zn_inc i)
        · have h := (not_congr (zc_ne (a := -1) (b := p) (by omega) (by omega) p1 p2)).mp h
          omega
      | some z =>
        obtain ⟨x, L⟩ := z
        obtain ⟨g1, g2, g3, g4, g5⟩ := decF_ok hO hm hi4 hd
        obtain ⟨q1, q2, q3⟩ := hres.1 x L hd
        subst q1
        have hlp := lastP_rng g5
        refine And.intro (fun h => ?_) (fun h => ?_)
        · have h := (zc_ne (a := lastP L) (b := p) (by omega) (by omega) p1 p2).mp h
          exact ih _ (by omega) (i + 1) _ _ _ _ _ _ _ _ rfl (by omega) (by rw [pwF, hd]; simp only []; rw [if_neg h]) (zn_inc i)
        have h := Classical.not_not.mp ((not_congr (zc_ne (a := lastP L) (b := p) (by omega) (by omega) p1 p2)).mp h)
        refine And.intro (fun h2 => ?_) (fun h2 => ?_)
        · rw [zc_le (by omega) (by omega) (by omega) (by omega)] at h2
          exact ih _ (by omega) (i + 1) _ _ _ _ _ _ _ _ rfl (by omega) (by rw [pwF, hd]; simp only []; rw [if_pos h]; congr 1; omega) (zn_inc i)
        · rw [zc_le (by omega) (by omega) (by omega) (by omega)] at h2
          exact ih _ (by omega) (i + 1) _ _ _ _ _ _ _ _ rfl (by omega) (by rw [pwF, hd]; simp only []; rw [if_pos h]; congr 1; omega) (zn_inc i)
  refine AW.go (bs := b_Mod_power) [41] 60 t_Mod_power ?_
  refine ⟨_, v_misPerson l, by decide, rfl, p, rfl, ⟨p1, p2⟩, ?_⟩
  refine And.intro (fun h => ?_) (fun h => ?_)
  · rw [zc_beq, decide_eq_false_iff_not] at h; exact fail () (by omega)
  rw [zc_beq, decide_eq_false_iff_not, Classical.not_not] at h
  refine ⟨_, v_misDay l, by decide, rfl, y, rfl, ⟨y1, y2⟩, ?_⟩
  refine And.intro (fun h => ?_) (fun h => ?_)
  · rw [zc_beq, decide_eq_false_iff_not] at h; exact fail () (by omega)
  rw [zc_beq, decide_eq_false_iff_not, Classical.not_not] at h
  refine ⟨_, v_in l, by decide, rfl, k, 0, 2, _, _, _, rfl, l_i k1 k2, l_0, l_k 2, ⟨by omega, by omega⟩, ⟨by omega, by omega⟩, ⟨by omega, by omega⟩, ?_⟩
  refine And.symm (And.intro (fun h => ?_) (fun h => ?_))
  · rw [zc_bne, decide_eq_true_eq] at h; exact fail () (by omega)
  rw [zc_bne, decide_eq_true_eq] at h
  refine ⟨_, v_masksFor l, by decide, _, _, _, _, _, _, _, _, _, _, _, _, _, _, _, _, _, _, _, _, _, _, _, _, _, _, _, _, _, _, _, _, _, rfl, rfl, ?_⟩
  exact loop (by omega) _ 0 _ _ _ _ _ _ _ _ rfl (by omega) rfl rfl
