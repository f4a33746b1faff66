noncomputable def q_step (M : Od) (r k c : Int) : Int := if 0 ≤ r ∧ r < M.1 5 then (if k = -1 then (if c = 0 then ((rq M r.toNat).length : Int) else -1) else if 0 ≤ k ∧ k < (rq M r.toNat).length ∧ 0 ≤ c ∧ c < 6 then (match (rq M r.toNat)[k.toNat]? with | some e => sC e (wq M r.toNat) c.toNat | none => -1) else -1) else -1
set_option maxRecDepth 20000 in
theorem v_step (l : Launch) : z_V l 98 (sp3 40 (qp3 q_step)) := by
  refine z_V.ofP (by decide +kernel) ?_
  rintro as σ K Post ⟨S, ⟨hOS, f, s, t, f1, s1, t1, f2, s2, t2, tb, f3, s3, t3, nu, ln, sp, ls, g, ta, pl, pf, ps, pt, fi, hz, ks, tz, ra, rf, rt, la, lb, lc, mp, mv, mk, mo, my, mw, ma, ml, ak, dy, br, ad, dp, lm, rs, len, rfl, hAR⟩, r, k, c, rfl, ⟨r1, r2⟩, ⟨k1, k2⟩, ⟨c1, c2⟩, hK⟩ hP1 hP0
  obtain ⟨hR, ⟨fq, rfl, hPR⟩, rfl, rfl, a5, a6, rfl, a8⟩ := id hAR
  have hO := hOS.1
  have hx4 := hO.2.2.2.2.2.2.2.2.2 4 (by omega)
  rw [x_4] at hx4
  have hx5 := hO.2.2.2.2.2.2.2.2.2 5 (by omega)
  rw [x_5] at hx5
  unfold qp3 q_step at hK
  simp only [] at hK
  refine AW.go (bs := b_Appr_step) [] 60 t_Appr_step ?_
  refine ⟨_, v_has l, by decide, f, s, t, rfl, S.1, 5, r, rfl, hR, by omega, ⟨r1, r2⟩, ?_⟩
  refine And.symm (And.intro (fun h => ?_) (fun h => ?_))
  · rw [zc_bne, decide_eq_true_eq] at h
    rw [if_neg h] at hK
    exact hP1 _ _ (hK _ (isA.mk hOS hAR))
  rw [zc_bne, decide_eq_true_eq] at h
  rw [if_pos h] at hK
  obtain ⟨j, rfl⟩ : ∃ j : Nat, r = (j : Int) := ⟨r.toNat, by omega⟩
  rw [Int.toNat_natCast] at hK
  have hr : j < S.1.1 5 := by omega
  have hc := hO.2.2.2.2.2.1 j hr
  have hw := whF_rng hO hr (S.1.2.1 5 j 5)
  have hwq : 1 ≤ wq S.1 j ∧ wq S.1 j ≤ 500000 := hw
  have hq := rq_ok hO hr
  show ∃ sp : Sp, _
  refine callA (fun _ => rfl) (v_matterOf l) (by decide) rfl ⟨_, _, _, _, _, _, _, _, _, _, _, _, _, _, _, _, _, _, _, _, _, _, _, _, _, _, _, _, _, _, _, _, _, _, _, _, _, _, _, _, _, _, _, _, _, _, _, _, _, S.1, j, rfl, rfl, hR, hO, hr, kkR isW isW ?_⟩
  refine ⟨_, v_follow l, by decide, _, _, _, f, s, t, S.1, mtR S.1 j, S.1.2.1 5 j 1, S.1.2.1 5 j 5, wq S.1 j, _, _, _, _, _, _, _, _, rfl, rfl, hR, hO, mtR_ok hO hr, ⟨by omega, by omega⟩, by omega, by omega, ⟨by omega, by omega⟩, fun sp' ls' ln' ak' dy' br' ad' dp' lm' rs' hRR => ?_⟩
  refine And.symm (And.intro (fun h => ?_) (fun h => ?_))
  · have h := (zc_eq (b := -1) k1 k2 (by omega) (by omega)).mp (Classical.not_not.mp h)
    rw [if_pos h] at hK
    refine And.symm (And.intro (fun h => ?_) (fun h => ?_))
    · rw [zc_ne0 c1 c2, Classical.not_not] at h
      rw [if_pos h] at hK
      exact hP1 _ _ (hK _ (isA.mk hOS hAR))
    · rw [zc_ne0 c1 c2] at h
      rw [if_neg h] at hK
      exact hP1 _ _ (hK _ (isA.mk hOS hAR))
  have h := mt (zc_eq (b := -1) k1 k2 (by omega) (by omega)).mpr (fun q => h q)
  rw [if_neg h] at hK
  refine ⟨_, v_rhas l, by decide, _, _, _, _, _, _, _, _, _, _, _, _, _, wq S.1 j, rq S.1 j, rfl, hRR, hq.2, k, rfl, ⟨k1, k2⟩, ?_⟩
  have fail : ∀ σ', isA S σ' → ¬ (0 ≤ k ∧ k < (rq S.1 j).length ∧ 0 ≤ c ∧ c < 6) → Post (some (.int (iI (-1)))) σ' := by
    intro σ' hA' hn
    rw [if_neg hn] at hK; exact hP1 _ _ (hK _ hA')
  refine And.intro (fun h => ?_) (fun h => ?_)
  · rw [zc_beq, decide_eq_false_iff_not] at h; exact fail _ (isA.mk hOS hAR) (by omega)
  rw [zc_beq, decide_eq_false_iff_not, Classical.not_not] at h
  refine And.intro (fun h => ?_) (fun h => ?_)
  · rw [zc_lt0 c1 c2] at h; exact fail _ (isA.mk hOS hAR) (by omega)
  rw [zc_lt0 c1 c2] at h
  refine And.symm (And.intro (fun h => ?_) (fun h => ?_))
  · rw [zn_i, zc_lt c1 c2 (by omega) (by omega)] at h; exact fail _ (isA.mk hOS hAR) (by omega)
  rw [zn_i, zc_lt c1 c2 (by omega) (by omega)] at h
  rw [if_pos (by omega)] at hK
  obtain ⟨i, rfl⟩ : ∃ i : Nat, k = (i : Int) := ⟨k.toNat, by omega⟩
  obtain ⟨q, rfl⟩ : ∃ q : Nat, c = (q : Int) := ⟨c.toNat, by omega⟩
  rw [Int.toNat_natCast, Int.toNat_natCast] at hK
  obtain ⟨e, he⟩ : ∃ e, (rq S.1 j)[i]? = some e := ⟨_, List.getElem?_eq_getElem (by omega)⟩
  rw [he] at hK
  refine ⟨_, v_rcell l, by decide, _, _, _, _, _, _, _, _, _, _, _, _, _, wq S.1 j, rq S.1 j, rfl, hRR, hq.2, i, q, e, _, _, rfl, rfl, rfl, he, by omega, ?_⟩
  exact hP1 _ _ (hK _ (isA.mk hOS hAR))
noncomputable def q_chain (M : Od) (r k i : Int) : Int := if 0 ≤ r ∧ r < M.1 5 ∧ 0 ≤ i then (if 0 ≤ k ∧ k < (rq M r.toNat).length then (match (rq M r.toNat)[k.toNat]? with | some e => (match e.2.2.1 with | some (_, L) => (if i < L.length then ((L[i.toNat]?.getD 0 : Nat) : Int) else -2) | none => -2) | none => -1) else -1) else -1
set_option maxRecDepth 20000 in
theorem v_chain (l : Launch) : z_V l 99 (sp3 40 (qp3 q_chain)) := by
  refine z_V.ofP (by decide +kernel) ?_
  rintro as σ K Post ⟨S, ⟨hOS, f, s, t, f1, s1, t1, f2, s2, t2, tb, f3, s3, t3, nu, ln, sp, ls, g, ta, pl, pf, ps, pt, fi, hz, ks, tz, ra, rf, rt, la, lb, lc, mp, mv, mk, mo, my, mw, ma, ml, ak, dy, br, ad, dp, lm, rs, len, rfl, hAR⟩, r, k, c, rfl, ⟨r1, r2⟩, ⟨k1, k2⟩, ⟨c1, c2⟩, hK⟩ hP1 hP0
  obtain ⟨hR, ⟨fq, rfl, hPR⟩, rfl, rfl, a5, a6, rfl, a8⟩ := id hAR
  have hO := hOS.1
  have hx4 := hO.2.2.2.2.2.2.2.2.2 4 (by omega)
  rw [x_4] at hx4
  have hx5 := hO.2.2.2.2.2.2.2.2.2 5 (by omega)
  rw [x_5] at hx5
  unfold qp3 q_chain at hK
  simp only [] at hK
  have fail : Unit → ¬ (0 ≤ r ∧ r < S.1.1 5 ∧ 0 ≤ c) → Post (some (.int (iI (-1)))) (wA f s t f1 s1 t1 f2 s2 t2 tb f3 s3 t3 nu ln sp ls g ta pl pf ps pt (iI fq) (iI S.2.1.length) (iI (kmask S.2.2.1 : Nat)) (iI S.2.2.2.1) ra rf rt la lb lc mp mv mk mo my mw ma ml ak dy br ad dp lm rs len) := by
    intro _ hn; rw [if_neg hn] at hK; exact hP1 _ _ (hK _ (isA.mk hOS hAR))
  refine AW.go (bs := b_Appr_chain) [] 60 t_Appr_chain ?_
  refine ⟨_, v_has l, by decide, f, s, t, rfl, S.1, 5, r, rfl, hR, by omega, ⟨r1, r2⟩, ?_⟩
  refine And.intro (fun h => ?_) (fun h => ?_)
  · rw [zc_beq, decide_eq_false_iff_not] at h; exact fail () (by omega)
  rw [zc_beq, decide_eq_false_iff_not, Classical.not_not] at h
  refine And.symm (And.intro (fun h => ?_) (fun h => ?_))
  · rw [zc_ge0 c1 c2] at h; exact fail () (by omega)
  rw [zc_ge0 c1 c2] at h
  rw [if_pos (by omega)] at hK
  obtain ⟨j, rfl⟩ : ∃ j : Nat, r = (j : Int) := ⟨r.toNat, by omega⟩
  rw [Int.toNat_natCast] at hK
  have hr : j < S.1.1 5 := by omega
  have hc := hO.2.2.2.2.2.1 j hr
  have hw := whF_rng hO hr (S.1.2.1 5 j 5)
  have hwq : 1 ≤ wq S.1 j ∧ wq S.1 j ≤ 500000 := hw
  have hq := rq_ok hO hr
  show ∃ sp : Sp, _
  refine callA (fun _ => rfl) (v_matterOf l) (by decide) rfl ⟨_, _, _, _, _, _, _, _, _, _, _, _, _, _, _, _, _, _, _, _, _, _, _, _, _, _, _, _, _, _, _, _, _, _, _, _, _, _, _, _, _, _, _, _, _, _, _, _, _, S.1, j, rfl, rfl, hR, hO, hr, kkR isW isW ?_⟩
  refine ⟨_, v_follow l, by decide, _, _, _, f, s, t, S.1, mtR S.1 j, S.1.2.1 5 j 1, S.1.2.1 5 j 5, wq S.1 j, _, _, _, _, _, _, _, _, rfl, rfl, hR, hO, mtR_ok hO hr, ⟨by omega, by omega⟩, by omega, by omega, ⟨by omega, by omega⟩, fun sp' ls' ln' ak' dy' br' ad' dp' lm' rs' hRR => ?_⟩
  refine ⟨_, v_rhas l, by decide, _, _, _, _, _, _, _, _, _, _, _, _, _, wq S.1 j, rq S.1 j, rfl, hRR, hq.2, k, rfl, ⟨k1, k2⟩, ?_⟩
  refine And.symm (And.intro (fun h => ?_) (fun h => ?_))
  · rw [zc_bne, decide_eq_true_eq] at h
    rw [if_neg h] at hK
    exact hP1 _ _ (hK _ (isA.mk hOS hAR))
  rw [zc_bne, decide_eq_true_eq] at h
  rw [if_pos h] at hK
  obtain ⟨i, rfl⟩ : ∃ i : Nat, k = (i : Int) := ⟨k.toNat, by omega⟩
  obtain ⟨q, rfl⟩ : ∃ q : Nat, c = (q : Int) := ⟨c.toNat, by omega⟩
  rw [Int.toNat_natCast] at hK
  obtain ⟨e, he⟩ : ∃ e, (rq S.1 j)[i]? = some e := ⟨_, List.getElem?_eq_getElem (by omega)⟩
  rw [he] at hK
  have heo := hq.1 e (List.mem_of_getElem? he)
  refine ⟨_, v_rcell l, by decide, _, _, _, _, _, _, _, _, _, _, _, _, _, wq S.1 j, rq S.1 j, rfl, hRR, hq.2, i, 5, e, _, _, rfl, rfl, rfl, he, by omega, ?_⟩
  have h5 := sC_rng heo (wq S.1 j) 5
  simp only [] at hK
  cases hd : e.2.2.1 with
  | none =>
    rw [hd] at hK
    have e5 : sC e (wq S.1 j) 5 = -2 := by simp [sC, hd]
    refine And.intro (fun h => ?_) (fun h => ?_)
    · exact hP1 _ _ (hK _ (isA.mk hOS hAR))
    · rw [zc_gt c1 c2 (by omega) (by omega)] at h; omega
  | some z =>
    obtain ⟨x, L⟩ := z
    rw [hd] at hK
    simp only [Int.toNat_natCast] at hK
    have e5 : sC e (wq S.1 j) 5 = (L.length : Int) - 1 := by simp [sC, hd]
    obtain ⟨g1, g2, g3, g4, g5⟩ := heo.2.2.2.1 x L hd
    refine And.intro (fun h => ?_) (fun h => ?_)
    · rw [zc_gt c1 c2 (by omega) (by omega)] at h
      rw [if_neg (by omega)] at hK
      exact hP1 _ _ (hK _ (isA.mk hOS hAR))
    · rw [zc_gt c1 c2 (by omega) (by omega)] at h
      rw [if_pos (by omega)] at hK
      obtain ⟨y, hy⟩ : ∃ y, L[q]? = some y := ⟨_, List.getElem?_eq_getElem (by omega)⟩
      rw [hy] at hK
      refine ⟨_, v_rinLine l, by decide, _, _, _, _, _, _, _, _, _, _, _, _, _, wq S.1 j, rq S.1 j, rfl, hRR, hq.2, i, q, y, e, x, L, rfl, he, hd, g4, hy, ?_⟩
      exact hP1 _ _ (hK _ (isA.mk hOS hAR))
noncomputable def q_ends (M : Od) (r c : Int) : Int := if 0 ≤ r ∧ r < M.1 5 ∧ 0 ≤ c ∧ c ≤ 3 then (if c = 3 then lC (rq M r.toNat) (wq M r.toNat) 0 else if M.2.1 5 r.toNat 6 ≠ -2 then (if c = 0 then 3 else if c = 1 then M.2.1 5 r.toNat 6 else -2) else outF (rq M r.toNat) (wq M r.toNat) c) else -1
set_option maxRecDepth 20000 in
theorem v_ends (l : Launch) : z_V l 100 (sp2 40 (qp2 q_ends)) := by
  refine z_V.ofP (by decide +kernel) ?_
  rintro as σ K Post ⟨S, ⟨hOS, f, s, t, f1, s1, t1, f2, s2, t2, tb, f3, s3, t3, nu, ln, sp, ls, g, ta, pl, pf, ps, pt, fi, hz, ks, tz, ra, rf, rt, la, lb, lc, mp, mv, mk, mo, my, mw, ma, ml, ak, dy, br, ad, dp, lm, rs, len, rfl, hAR⟩, r, c, rfl, ⟨r1, r2⟩, ⟨c1, c2⟩, hK⟩ hP1 hP0
  obtain ⟨hR, ⟨fq, rfl, hPR⟩, rfl, rfl, a5, a6, rfl, a8⟩ := id hAR
  have hO := hOS.1
  have hx4 := hO.2.2.2.2.2.2.2.2.2 4 (by omega)
  rw [x_4] at hx4
  have hx5 := hO.2.2.2.2.2.2.2.2.2 5 (by omega)
  rw [x_5] at hx5
  unfold qp2 q_ends at hK
  simp only [] at hK
  have fail : Unit → ¬ (0 ≤ r ∧ r < S.1.1 5 ∧ 0 ≤ c ∧ c ≤ 3) → Post (some (.int (iI (-1)))) (wA f s t f1 s1 t1 f2 s2 t2 tb f3 s3 t3 nu ln sp ls g ta pl pf ps pt (iI fq) (iI S.2.1.length) (iI (kmask S.2.2.1 : Nat)) (iI S.2.2.2.1) ra rf rt la lb lc mp mv mk mo my mw ma ml ak dy br ad dp lm rs len) := by
    intro _ hn; rw [if_neg hn] at hK; exact hP1 _ _ (hK _ (isA.mk hOS hAR))
  refine AW.go (bs := b_Appr_ends) [] 60 t_Appr_ends ?_
  refine ⟨_, v_has l, by decide, f, s, t, rfl, S.1, 5, r, rfl, hR, by omega, ⟨r1, r2⟩, ?_⟩
  refine And.intro (fun h => ?_) (fun h => ?_)
  · rw [zc_beq, decide_eq_false_iff_not] at h; exact fail () (by omega)
  rw [zc_beq, decide_eq_false_iff_not, Classical.not_not] at h
  refine And.intro (fun h => ?_) (fun h => ?_)
  · rw [zc_lt0 c1 c2] at h; exact fail () (by omega)
  rw [zc_lt0 c1 c2] at h
  refine And.symm (And.intro (fun h => ?_) (fun h => ?_))
  · rw [zn_i, zc_le c1 c2 (by omega) (by omega)] at h; exact fail () (by omega)
  rw [zn_i, zc_le c1 c2 (by omega) (by omega)] at h
  rw [if_pos (by omega)] at hK
  obtain ⟨j, rfl⟩ : ∃ j : Nat, r = (j : Int) := ⟨r.toNat, by omega⟩
  rw [Int.toNat_natCast] at hK
  have hr : j < S.1.1 5 := by omega
  have hc := hO.2.2.2.2.2.1 j hr
  have hw := whF_rng hO hr (S.1.2.1 5 j 5)
  have hwq : 1 ≤ wq S.1 j ∧ wq S.1 j ≤ 500000 := hw
  have hq := rq_ok hO hr
  show ∃ sp : Sp, _
  refine callA (fun _ => rfl) (v_matterOf l) (by decide) rfl ⟨_, _, _, _, _, _, _, _, _, _, _, _, _, _, _, _, _, _, _, _, _, _, _, _, _, _, _, _, _, _, _, _, _, _, _, _, _, _, _, _, _, _, _, _, _, _, _, _, _, S.1, j, rfl, rfl, hR, hO, hr, kkR isW isW ?_⟩
  refine ⟨_, v_follow l, by decide, _, _, _, f, s, t, S.1, mtR S.1 j, S.1.2.1 5 j 1, S.1.2.1 5 j 5, wq S.1 j, _, _, _, _, _, _, _, _, rfl, rfl, hR, hO, mtR_ok hO hr, ⟨by omega, by omega⟩, by omega, by omega, ⟨by omega, by omega⟩, fun sp' ls' ln' ak' dy' br' ad' dp' lm' rs' hRR => ?_⟩
  refine And.symm (And.intro (fun h => ?_) (fun h => ?_))
  · rw [zn_i, zc_ne c1 c2 (by omega) (by omega), Classical.not_not] at h
    rw [if_pos (by omega)] at hK
    refine ⟨_, v_lastCell l, by decide, _, _, _, _, _, _, _, _, _, _, _, _, _, wq S.1 j, rq S.1 j, rfl, hRR, hq.2, 0, rfl, by omega, ?_⟩
    exact hP1 _ _ (hK _ (isA.mk hOS hAR))
  rw [zn_i, zc_ne c1 c2 (by omega) (by omega)] at h
  rw [if_neg (by omega)] at hK
  refine ⟨_, v_isRecalled l, by decide, f, s, t, rfl, S.1, j, rfl, hR, hO, hr, ?_⟩
  refine And.symm (And.intro (fun h => ?_) (fun h => ?_))
  · rw [zc_bne, decide_eq_true_eq] at h
    rw [if_neg h] at hK
    refine ⟨_, v_outcome l, by decide, _, _, _, _, _, _, _, _, _, _, _, _, _, wq S.1 j, rq S.1 j, rfl, hRR, hq.2, c, hq.1, rfl, ⟨c1, c2⟩, ?_⟩
    exact hP1 _ _ (hK _ (isA.mk hOS hAR))
  rw [zc_bne, decide_eq_true_eq] at h
  rw [if_pos h] at hK
  refine And.symm (And.intro (fun h => ?_) (fun h => ?_))
  · rw [zc_ne0 c1 c2, Classical.not_not] at h
    rw [if_pos h] at hK
    exact hP1 _ _ (hK _ (isA.mk hOS hAR))
  rw [zc_ne0 c1 c2] at h
  rw [if_neg h] at hK
  refine And.symm (And.intro (fun h => ?_) (fun h => ?_))
  · rw [zn_i, zc_ne c1 c2 (by omega) (by omega), Classical.not_not] at h
    rw [if_pos (by omega)] at hK
    refine ⟨_, v_cell l, by decide, f, s, t, rfl, S.1, 5, j, 6, rfl, hR, by omega, hr, by decide, ?_⟩
    exact hP1 _ _ (hK _ (isA.mk hOS hAR))
  rw [zn_i, zc_ne c1 c2 (by omega) (by omega)] at h
  rw [if_neg (by omega)] at hK
  exact hP1 _ _ (hK _ (isA.mk hOS hAR))
