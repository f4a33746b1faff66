theorem oPutDay_ok {M : Od} (hO : OKM M) {r : Nat} {y : Int} (hr : r < M.1 5) (h1 : 0 ≤ y) (h2 : y ≤ 999) : OKM (oPut M 5 r 5 y) := by
  refine oPut_ok hO ?_
  have h := hO.2.2.2.2.2.1 r hr
  show 0 ≤ M.2.1 5 r 0 ∧ M.2.1 5 r 0 < 16 ∧ 0 ≤ M.2.1 5 r 1 ∧ M.2.1 5 r 1 < M.1 4 ∧ 0 ≤ M.2.1 5 r 2 ∧ M.2.1 5 r 2 < 10 ∧ 0 ≤ M.2.1 5 r 3 ∧ M.2.1 5 r 3 < 3 ∧ 1 ≤ M.2.1 5 r 4 ∧ M.2.1 5 r 4 ≤ 9999 ∧ 0 ≤ y ∧ y ≤ 999 ∧ (M.2.1 5 r 6 = -2 ∨ (0 ≤ M.2.1 5 r 6 ∧ M.2.1 5 r 6 ≤ 999))
  omega
theorem oPutPost_ok {M : Od} (hO : OKM M) {r : Nat} {o : Int} (hr : r < M.1 5) (h1 : 0 ≤ o) (h2 : o < M.1 4) : OKM (oPut M 5 r 1 o) := by
  refine oPut_ok hO ?_
  have h := hO.2.2.2.2.2.1 r hr
  show 0 ≤ M.2.1 5 r 0 ∧ M.2.1 5 r 0 < 16 ∧ 0 ≤ o ∧ o < M.1 4 ∧ 0 ≤ M.2.1 5 r 2 ∧ M.2.1 5 r 2 < 10 ∧ 0 ≤ M.2.1 5 r 3 ∧ M.2.1 5 r 3 < 3 ∧ 1 ≤ M.2.1 5 r 4 ∧ M.2.1 5 r 4 ≤ 9999 ∧ 0 ≤ M.2.1 5 r 5 ∧ M.2.1 5 r 5 ≤ 999 ∧ (M.2.1 5 r 6 = -2 ∨ (0 ≤ M.2.1 5 r 6 ∧ M.2.1 5 r 6 ≤ 999))
  omega
theorem upd_upd (f : Nat → Int32) (i : Nat) (a b : Int32) : upd (upd f i a) i b = upd f i b := by
  funext j; unfold upd; split <;> rfl
theorem upd_back (f : Nat → Int32) (i : Nat) (a : Int32) : upd (upd f i a) i (f i) = f := by
  funext j; unfold upd; split
  · next e => rw [e]
  · rfl
set_option maxRecDepth 20000 in
theorem v_minstead (l : Launch) : z_V l 254 (m3 40 (qp3 q_instead)) := by
  refine z_V.ofP (by decide +kernel) ?_
  rintro as σ K Post ⟨S, ⟨hOS, now, was, kept, isk, ln, sp, ls, ld, tb, rd, und, gon, lef, ak, vn, dy, asd, lma, lim, rea, sts, apr, tz, spo, wro, num, nuA, stl, spe, wan, fou, rfl, hMR⟩, r, o, c, rfl, ⟨r1, r2⟩, ⟨o1, o2⟩, ⟨c1, c2⟩, hK⟩ hP1 hP0
  obtain ⟨hN, h2_, rfl, h4_, h5_, h6_, h7_, rfl, rfl, rfl, h11_⟩ := id hMR
  have hO := hOS.1
  have hx4 := hO.2.2.2.2.2.2.2.2.2 4 (by omega)
  rw [x_4] at hx4
  have hx5 := hO.2.2.2.2.2.2.2.2.2 5 (by omega)
  rw [x_5] at hx5
  unfold qp3 q_instead at hK
  simp only [] at hK
  have fail : Unit → ¬ (0 ≤ r ∧ r < S.1.1 5 ∧ 0 ≤ o ∧ o < S.1.1 4 ∧ 0 ≤ c ∧ c ≤ 2) → Post (some (.int (iI (-1)))) (wMd now was kept isk ln sp ls ld tb rd (iI S.2.1.length) (iI (-1)) (iI (-1)) ak vn dy asd lma lim rea sts apr (iI S.2.2.2.1) spo wro num nuA stl spe wan fou) := by
    intro _ hn; rw [if_neg hn] at hK; exact hP1 _ _ (hK _ (isMd.mk hOS hMR))
  refine AW.go (bs := b_Mod_instead) [] 90 t_Mod_instead ?_
  refine ⟨_, v_misRequest l, by decide, _, _, _, _, _, _, _, _, _, _, _, _, _, _, _, _, _, _, _, _, _, _, _, _, _, _, _, _, _, _, _, S.1, rfl, hN, hO, r, rfl, ⟨r1, r2⟩, ?_⟩
  refine And.intro (fun h => ?_) (fun h => ?_)
  · rw [zc_beq, decide_eq_false_iff_not] at h; exact fail () (by omega)
  rw [zc_beq, decide_eq_false_iff_not, Classical.not_not] at h
  refine ⟨_, v_misPost l, by decide, _, _, _, _, _, _, _, _, _, _, _, _, _, _, _, _, _, _, _, _, _, _, _, _, _, _, _, _, _, _, _, S.1, rfl, hN, hO, o, rfl, ⟨o1, o2⟩, ?_⟩
  refine And.intro (fun h => ?_) (fun h => ?_)
  · rw [zc_beq, decide_eq_false_iff_not] at h; exact fail () (by omega)
  rw [zc_beq, decide_eq_false_iff_not, Classical.not_not] at h
  refine ⟨_, v_in l, by decide, rfl, c, 0, 2, _, _, _, rfl, l_i c1 c2, l_0, l_k 2, ⟨by omega, by omega⟩, ⟨by omega, by omega⟩, ⟨by omega, by omega⟩, ?_⟩
  refine And.symm (And.intro (fun h => ?_) (fun h => ?_))
  · rw [zc_bne, decide_eq_true_eq] at h; exact fail () (by omega)
  rw [zc_bne, decide_eq_true_eq] at h
  rw [if_pos (by omega)] at hK
  obtain ⟨j, rfl⟩ : ∃ j : Nat, r = (j : Int) := ⟨r.toNat, by omega⟩
  rw [Int.toNat_natCast] at hK
  have hr : j < S.1.1 5 := by omega
  have hc := hO.2.2.2.2.2.1 j hr
  have hw := whF_rng hO hr (S.1.2.1 5 j 5)
  have hwq : 1 ≤ wq S.1 j ∧ wq S.1 j ≤ 500000 := hw
  have hq := rq_ok hO hr
  have hx := routeF_ok hO (mtR_ok hO hr) (wq S.1 j) 12 o (S.1.2.1 5 j 5) (by omega)
  have hz := mi_lt' (c := 1) (by omega : 5 < 6) (show j < oX 5 by rw [x_5]; omega) (by decide)
  have ei : z_nn 377 0 + z_nn 7 0 * iI (j : Int) + z_nn 1 0 = iI ((mi 5 j 1 : Nat) : Int) := by rw [zn_i, zn_i, zn_i, iI_mul, iI_add, iI_add]; rfl
  have hN2 := hN.put (d := 5) (c := 1) (by omega) hr (by decide) o
  rw [mVal, if_neg (by omega)] at hN2
  have hO2 := oPutPost_ok hO hr (o := o) (by omega) (by omega)
  have e1 : (oPut S.1 5 j 1 o).2.1 5 j 1 = o := by show (if 5 = 5 ∧ j = j ∧ 1 = 1 then o else _) = o; rw [if_pos ⟨rfl, rfl, rfl⟩]
  have ec : ∀ c, c ≠ 1 → (oPut S.1 5 j 1 o).2.1 5 j c = S.1.2.1 5 j c := fun c hc => by
    show (if 5 = 5 ∧ j = j ∧ c = 1 then o else S.1.2.1 5 j c) = _; rw [if_neg (by omega)]
  have ert : routeF (oPut S.1 5 j 1 o) (mtG (oPut S.1 5 j 1 o) j (-1) (-1)) (wq (oPut S.1 5 j 1 o) j) 12 ((oPut S.1 5 j 1 o).2.1 5 j 1) ((oPut S.1 5 j 1 o).2.1 5 j 5) = rqO S.1 j o := by
    rw [wq_post, e1, ec 5 (by omega), routeF_same (sameO_put S.1 j 1 o)]
    unfold mtG
    rw [ec 0 (by omega), ec 2 (by omega), ec 3 (by omega)]
    rfl
  show _ ∧ _
  rw [ei]
  refine And.intro (zN_in hz.2 (by omega)) ?_
  refine And.intro (zN_in hz.2 (by omega)) ?_
  show ∃ sp : Sp, _
  rw [zN_cl (by omega)]
  refine ⟨_, v_mroutes l, by decide, _, _, _, _, _, _, _, _, _, _, _, 0, 0, _, _, _, _, _, _, _, _, _, _, _, _, _, _, _, _, _, _, oPut S.1 5 j 1 o, j, -1, -1, rfl, rfl, hN2, hO2, hr, ⟨by omega, by omega⟩, ⟨by omega, by omega⟩, fun sp ls ln ak vn dy asd lma lim rea sts apr hrt => ?_⟩
  rw [ert, wq_post] at hrt
  refine And.intro (zN_in hz.2 (by omega)) ?_
  show ∃ sp : Sp, _
  rw [zN_cl (by omega), upd_back]
  refine ⟨_, v_mendBy l, by decide, _, _, _, _, _, _, _, _, _, _, _, _, _, _, _, _, _, _, _, _, _, _, _, _, _, _, _, _, _, _, _, wq S.1 j, rqO S.1 j o, rfl, hrt, hx.2, routeF_ne (by omega) (by omega) (by omega), c, rfl, ⟨c1, c2⟩, by omega, ?_⟩
  exact hP1 _ _ (hK _ (isMd.mk hOS hMR))
set_option maxRecDepth 20000 in
theorem v_msoonest (l : Launch) : z_V l 253 (m4 40 (qp4 q_soonest)) := by
  refine z_V.ofP (by decide +kernel) ?_
  rintro as σ K Post ⟨S, ⟨hOS, now, was, kept, isk, ln, sp, ls, ld, tb, rd, und, gon, lef, ak, vn, dy, asd, lma, lim, rea, sts, apr, tz, spo, wro, num, nuA, stl, spe, wan, fou, rfl, hMR⟩, r, u, v, c, rfl, ⟨r1, r2⟩, ⟨u1, u2⟩, ⟨v1, v2⟩, ⟨c1, c2⟩, hK⟩ hP1 hP0
  obtain ⟨hN, h2_, rfl, h4_, h5_, h6_, h7_, rfl, rfl, rfl, h11_⟩ := id hMR
  have hO := hOS.1
  have hx4 := hO.2.2.2.2.2.2.2.2.2 4 (by omega)
  rw [x_4] at hx4
  have hx5 := hO.2.2.2.2.2.2.2.2.2 5 (by omega)
  rw [x_5] at hx5
  unfold qp4 q_soonest at hK
  simp only [] at hK
  have fail : Unit → ¬ (0 ≤ r ∧ r < S.1.1 5 ∧ 0 ≤ u ∧ u ≤ v ∧ v ≤ 999 ∧ v - u ≤ 60 ∧ 0 ≤ c ∧ c ≤ 1) → Post (some (.int (iI (-1)))) (wMd now was kept isk ln sp ls ld tb rd (iI S.2.1.length) (iI (-1)) (iI (-1)) ak vn dy asd lma lim rea sts apr (iI S.2.2.2.1) spo wro num nuA stl spe wan fou) := by
    intro _ hn; rw [if_neg hn] at hK; exact hP1 _ _ (hK _ (isMd.mk hOS hMR))
  have loop : ∀ j : Nat, r = (j : Int) → (0 ≤ r ∧ r < S.1.1 5 ∧ 0 ≤ u ∧ u ≤ v ∧ v ≤ 999 ∧ v - u ≤ 60 ∧ 0 ≤ c ∧ c ≤ 1) → ∀ (n i : Nat) (x7 x8 x9 xd : Int32) (sp ls ln : Nat → Int32) (ak vn dy asd lma lim rea sts apr : Int32), n = (v - u + 1).toNat - i → i ≤ (v - u + 1).toNat → x7 = iI (bsU u (soF S.1 j u i)) → x8 = iI (if bsU u (soF S.1 j u i) = -2 then -2 else bsD (soF S.1 j u i)) → x9 = iI (u + i) →
      AW l 253 40 0 0 11 none Post 69 [some (.ref 0), some (.int (iI r)), some (.int (iI u)), some (.int (iI v)), some (.int (iI c)), some (.int (iI (mi 5 j 5 : Nat))), some (.int (now (mi 5 j 5))), some (.int x7), some (.int x8), some (.int x9)] [] (wMd (upd now (mi 5 j 5) xd) was kept isk ln sp ls ld tb rd (iI S.2.1.length) (iI (-1)) (iI (-1)) ak vn dy asd lma lim rea sts apr (iI S.2.2.2.1) spo wro num nuA stl spe wan fou) 0 0 := by
    intro j hj hc n
    subst hj
    rw [if_pos hc, Int.toNat_natCast] at hK
    have hr : j < S.1.1 5 := by omega
    have hc := hO.2.2.2.2.2.1 j hr
    have hw := whF_rng hO hr (S.1.2.1 5 j 5)
    have hwq : 1 ≤ wq S.1 j ∧ wq S.1 j ≤ 500000 := hw
    have hq := rq_ok hO hr
    have hz := mi_lt' (c := 5) (by omega : 5 < 6) (show j < oX 5 by rw [x_5]; omega) (by decide)
    have hbr := fun (i : Nat) => bsF_rng (P := soP S.1 j u) i (fun k d hk hd => by
      unfold soP at hd
      split at hd
      · cases hd; exact ⟨(lC_rng (rqY_ok hO hr (by omega)).1 _ 1).1, (lC_rng (rqY_ok hO hr (by omega)).1 _ 1).2⟩
      · cases hd)
    induction n using Nat.strongRecOn with
    | ind n ih =>
      intro i x7 x8 x9 xd sp ls ln ak vn dy asd lma lim rea sts apr hn hi e7 e8 e9
      subst e7; subst e8; subst e9
      have hb := hbr i
      rw [show bsF (soP S.1 j u) i = soF S.1 j u i from rfl] at hb
      have hbu := bsU_rng (u := u) (soF S.1 j u i) (by omega) hb.2.2
      have hnone : bsU u (soF S.1 j u i) = -2 ↔ soF S.1 j u i = none := by
        cases hcu : soF S.1 j u i with
        | none => simp [bsU]
        | some z => simp [bsU]; omega
      refine AW.go (bs := b_Mod_soonest) [69] 90 t_Mod_soonest ?_
      refine And.intro (fun h => ?_) (fun h => ?_)
      · rw [zc_gt (by omega) (by omega) (by omega) (by omega)] at h
        have : i = (v - u + 1).toNat := by omega
        subst this
        refine And.intro (zN_in hz.2 (by omega)) ?_
        show _ ∧ _
        rw [zN_cl (by omega), upd_back]
        refine And.symm (And.intro (fun h2 => ?_) (fun h2 => ?_))
        · rw [zc_ne0 c1 c2, Classical.not_not] at h2
          rw [if_pos (Or.inl h2)] at hK
          exact hP1 _ _ (hK _ (isMd.mk hOS hMR))
        · rw [zc_ne0 c1 c2] at h2
          by_cases e : bsU u (soF S.1 j u (v - u + 1).toNat) = -2
          · rw [if_pos (Or.inr e), e] at hK
            show Post _ _
            rw [if_pos e]
            exact hP1 _ _ (hK _ (isMd.mk hOS hMR))
          · rw [if_neg (fun q => q.elim h2 e)] at hK
            show Post _ _
            rw [if_neg e]
            exact hP1 _ _ (hK _ (isMd.mk hOS hMR))
      rw [zc_gt (by omega) (by omega) (by omega) (by omega)] at h
      have hx := rqY_ok hO hr (y := u + i) (by omega)
      have hne : rqY S.1 j (u + i) ≠ [] := routeF_ne (by omega) (by omega) (by omega)
      have hN2 := hN.put (d := 5) (c := 5) (by omega) hr (by decide) (u + i)
      rw [mVal, if_neg (by omega)] at hN2
      have hO2 := oPutDay_ok hO hr (y := u + i) (by omega) (by omega)
      have e5 : (oPut S.1 5 j 5 (u + i)).2.1 5 j 5 = u + i := by show (if 5 = 5 ∧ j = j ∧ 5 = 5 then (u + i : Int) else _) = u + i; rw [if_pos ⟨rfl, rfl, rfl⟩]
      have ec : ∀ c, c ≠ 5 → (oPut S.1 5 j 5 (u + i)).2.1 5 j c = S.1.2.1 5 j c := fun c hc => by
        show (if 5 = 5 ∧ j = j ∧ c = 5 then (u + i : Int) else S.1.2.1 5 j c) = _; rw [if_neg (by omega)]
      have ert : routeF (oPut S.1 5 j 5 (u + i)) (mtG (oPut S.1 5 j 5 (u + i)) j (-1) (-1)) (wq (oPut S.1 5 j 5 (u + i)) j) 12 ((oPut S.1 5 j 5 (u + i)).2.1 5 j 1) ((oPut S.1 5 j 5 (u + i)).2.1 5 j 5) = rqY S.1 j (u + i) := by
        rw [wq_day, e5, ec 1 (by omega), routeF_same (sameO_put S.1 j 5 (u + i))]
        unfold mtG
        rw [ec 0 (by omega), ec 2 (by omega), ec 3 (by omega)]
        rfl
      refine And.intro (zN_in hz.2 (by omega)) ?_
      show ∃ sp : Sp, _
      rw [zN_cl (by omega), upd_upd]
      refine ⟨_, v_mroutes l, by decide, _, _, _, _, _, _, _, _, _, _, _, 0, 0, _, _, _, _, _, _, _, _, _, _, _, _, _, _, _, _, _, _, oPut S.1 5 j 5 (u + i), j, -1, -1, rfl, rfl, hN2, hO2, hr, ⟨by omega, by omega⟩, ⟨by omega, by omega⟩, fun sp' ls' ln' ak' vn' dy' asd' lma' lim' rea' sts' apr' hrt => ?_⟩
      rw [ert, wq_day] at hrt
      have hl1 := lC_rng hx.1 (whF S.1 j (u + i)) 1
      have hl999 : lC (rqY S.1 j (u + i)) (whF S.1 j (u + i)) 1 ≤ 999 := by
        unfold lC
        cases hg : (rqY S.1 j (u + i)).getLast? with
        | none => simp
        | some e => exact (hx.1 e (List.mem_of_getLast? hg)).2.2.1
      have ecu : soF S.1 j u (i + 1) = (match soP S.1 j u i with | none => soF S.1 j u i | some d => if d < bsD (soF S.1 j u i) then some (i, d) else soF S.1 j u i) := rfl
      have e9 : iI (u + (i : Int)) + z_nn 1 0 = iI (u + ((i + 1 : Nat) : Int)) := by rw [zn_i, iI_add]; congr 1; omega
      have eU : ∀ d, bsU u (some (i, d)) = u + i := fun d => rfl
      obtain ⟨-, hs', ha'⟩ := id hrt
      show _ ∧ _
      rw [ha']
      refine And.intro (fun h2 => ?_) (fun h2 => ?_)
      · rw [zc_beq, decide_eq_false_iff_not] at h2
        have ep : soP S.1 j u i = none := by unfold soP; rw [if_neg h2]
        rw [ep] at ecu
        simp only [] at ecu
        exact ih _ (by omega) (i + 1) _ _ _ _ _ _ _ _ _ _ _ _ _ _ _ _ rfl (by omega) (by rw [ecu]) (by rw [ecu]) e9
      rw [zc_beq, decide_eq_false_iff_not, Classical.not_not] at h2
      have ep : soP S.1 j u i = some (lC (rqY S.1 j (u + i)) (whF S.1 j (u + i)) 1) := by unfold soP; rw [if_pos h2]
      rw [ep] at ecu
      simp only [] at ecu
      have hrt1 : mRt (rqY S.1 j (u + i)) (whF S.1 j (u + i)) sp' ls' sts' (bI (decide (lC (rqY S.1 j (u + i)) (whF S.1 j (u + i)) 4 = 0))) := by rw [← ha']; exact hrt
      refine And.intro (fun h3 => ?_) (fun h3 => ?_)
      · have h3 := (zc_eq (b := -2) (by omega) (by omega) (by omega) (by omega)).mp h3
        have hb1000 : bsD (soF S.1 j u i) = 1000 := by rw [hnone.mp h3]; rfl
        rw [if_pos (by omega)] at ecu
        refine ⟨_, v_mlast l, by decide, _, _, _, _, _, _, _, _, _, _, _, _, _, _, _, _, _, _, _, _, _, _, _, _, _, _, _, _, _, _, _, whF S.1 j (u + i), rqY S.1 j (u + i), rfl, hrt1, hx.2, hne, 1, rfl, by omega, ?_⟩
        exact ih _ (by omega) (i + 1) _ _ _ _ _ _ _ _ _ _ _ _ _ _ _ _ rfl (by omega) (by rw [ecu, eU]) (by rw [ecu, eU, if_neg (by omega)]; rfl) e9
      have h3 := mt (zc_eq (a := bsU u (soF S.1 j u i)) (b := -2) (by omega) (by omega) (by omega) (by omega)).mpr h3
      refine ⟨_, v_mlast l, by decide, _, _, _, _, _, _, _, _, _, _, _, _, _, _, _, _, _, _, _, _, _, _, _, _, _, _, _, _, _, _, _, whF S.1 j (u + i), rqY S.1 j (u + i), rfl, hrt1, hx.2, hne, 1, rfl, by omega, ?_⟩
      show _ ∧ _
      rw [if_neg h3]
      refine And.symm (And.intro (fun h4 => ?_) (fun h4 => ?_))
      · rw [zc_lt (by omega) (by omega) (by omega) (by omega)] at h4
        rw [if_neg h4] at ecu
        exact ih _ (by omega) (i + 1) _ _ _ _ _ _ _ _ _ _ _ _ _ _ _ _ rfl (by omega) (by rw [ecu]) (by rw [ecu, if_neg h3]) e9
      · rw [zc_lt (by omega) (by omega) (by omega) (by omega)] at h4
        rw [if_pos h4] at ecu
        refine ⟨_, v_mlast l, by decide, _, _, _, _, _, _, _, _, _, _, _, _, _, _, _, _, _, _, _, _, _, _, _, _, _, _, _, _, _, _, _, whF S.1 j (u + i), rqY S.1 j (u + i), rfl, hrt1, hx.2, hne, 1, rfl, by omega, ?_⟩
        exact ih _ (by omega) (i + 1) _ _ _ _ _ _ _ _ _ _ _ _ _ _ _ _ rfl (by omega) (by rw [ecu, eU]) (by rw [ecu, eU, if_neg (by omega)]; rfl) e9
  refine AW.go (bs := b_Mod_soonest) [69] 90 t_Mod_soonest ?_
  refine ⟨_, v_misRequest l, by decide, _, _, _, _, _, _, _, _, _, _, _, _, _, _, _, _, _, _, _, _, _, _, _, _, _, _, _, _, _, _, _, S.1, rfl, hN, hO, r, rfl, ⟨r1, r2⟩, ?_⟩
  refine And.intro (fun h => ?_) (fun h => ?_)
  · rw [zc_beq, decide_eq_false_iff_not] at h; exact fail () (by omega)
  rw [zc_beq, decide_eq_false_iff_not, Classical.not_not] at h
  refine ⟨_, v_mareDays l, by decide, rfl, u, v, rfl, ⟨u1, u2⟩, ⟨v1, v2⟩, ?_⟩
  refine And.intro (fun h => ?_) (fun h => ?_)
  · rw [zc_beq, dys, decide_eq_false_iff_not] at h; exact fail () (by omega)
  rw [zc_beq, dys, decide_eq_false_iff_not, Classical.not_not] at h
  refine And.intro (fun h => ?_) (fun h => ?_)
  · rw [zn_i, iI_add, zc_gt (by omega) (by omega) (by omega) (by omega)] at h; exact fail () (by omega)
  rw [zn_i, iI_add, zc_gt (by omega) (by omega) (by omega) (by omega)] at h
  refine ⟨_, v_in l, by decide, rfl, c, 0, 1, _, _, _, rfl, l_i c1 c2, l_0, l_1, ⟨by omega, by omega⟩, ⟨by omega, by omega⟩, ⟨by omega, by omega⟩, ?_⟩
  refine And.symm (And.intro (fun h => ?_) (fun h => ?_))
  · rw [zc_bne, decide_eq_true_eq] at h; exact fail () (by omega)
  rw [zc_bne, decide_eq_true_eq] at h
  obtain ⟨j, rfl⟩ : ∃ j : Nat, r = (j : Int) := ⟨r.toNat, by omega⟩
  have hr : j < S.1.1 5 := by omega
  have hz := mi_lt' (c := 5) (by omega : 5 < 6) (show j < oX 5 by rw [x_5]; omega) (by decide)
  have ei : z_nn 377 0 + z_nn 7 0 * iI (j : Int) + z_nn 5 0 = iI ((mi 5 j 5 : Nat) : Int) := by rw [zn_i, zn_i, zn_i, iI_mul, iI_add, iI_add]; rfl
  show _ ∧ _
  rw [ei]
  refine And.intro (zN_in hz.2 (by omega)) ?_
  show AW _ _ _ _ _ _ _ _ _ _ _ _ _ _
  rw [zN_cl (by omega)]
  have := loop j rfl (by omega) _ 0 _ _ _ (now (mi 5 j 5)) sp ls ln ak vn dy asd lma lim rea sts apr rfl (by omega) rfl rfl rfl
  rw [show upd now (mi 5 j 5) (now (mi 5 j 5)) = now from by funext q; unfold upd; split <;> simp_all, show u + ((0 : Nat) : Int) = u by omega] at this
  exact this
/-! those who give, in the model -/
theorem gvM_test {M : Od} (y : Int) (p j : Nat) : (gvM M y p).testBit j = true ↔ ∃ k, k < M.1 2 ∧ M.2.1 2 k 0 = (p : Int) ∧ cov M 2 k y = true ∧ tk M k = j := by
  unfold gvM
  rw [bitsF_test]
  constructor
  · rintro ⟨k, h1, h2, h3⟩
    unfold gv1 at h2
    rw [Bool.and_eq_true, decide_eq_true_iff] at h2
    exact ⟨k, h1, h2.1, h2.2, h3⟩
  · rintro ⟨k, h1, h2, h3, h4⟩
    exact ⟨k, h1, by unfold gv1; rw [Bool.and_eq_true, decide_eq_true_iff]; exact ⟨h2, h3⟩, h4⟩
def gvr (M : Od) (k : Nat) : Nat := (M.2.1 2 k 0).toNat
theorem OKM.gv {M : Od} (h : OKM M) {k : Nat} (hk : k < M.1 2) : M.2.1 2 k 0 = (gvr M k : Int) ∧ gvr M k < 16 := by
  have := h.2.2.1 k hk
  unfold gvr
  omega
def nxB (M : Od) (y : Int) (a n : Nat) : Nat := bitsF (fun k => a.testBit (gvr M k) && cov M 2 k y) (tk M) n
theorem nxB_test {M : Od} (hO : OKM M) (y : Int) (a j : Nat) : (nxB M y a (M.1 2)).testBit j = true ↔ ∃ i, i < 16 ∧ a.testBit i = true ∧ (gvM M y i).testBit j = true := by
  unfold nxB
  rw [bitsF_test]
  constructor
  · rintro ⟨k, h1, h2, h3⟩
    rw [Bool.and_eq_true] at h2
    exact ⟨gvr M k, (hO.gv h1).2, h2.1, (gvM_test y _ j).mpr ⟨k, h1, (hO.gv h1).1, h2.2, h3⟩⟩
  · rintro ⟨i, h1, h2, h3⟩
    obtain ⟨k, g1, g2, g3, g4⟩ := (gvM_test y i j).mp h3
    refine ⟨k, g1, ?_, g4⟩
    have := (hO.gv g1).1
    rw [Bool.and_eq_true, show gvr M k = i by omega]
    exact ⟨h2, g3⟩
theorem nxB_lt {M : Od} (hO : OKM M) (y : Int) (a : Nat) {n : Nat} (hn : n ≤ M.1 2) : nxB M y a n < 65536 := bitsF_lt (w := 16) (fun k hk _ => (hO.tk (show k < M.1 2 by omega)).2)
def sp_mbehind : Sp := spN 2 (fun M _ _ _ _ _ as K => ∃ (p : Nat) (y : Int), as = [.ref 0, .int (iI p), .int (iI y)] ∧ p < 16 ∧ ir y ∧ K (some (.int (iI (rM (gvM M y) p : Nat)))))
set_option maxRecDepth 20000 in
theorem v_mbehind (l : Launch) : z_V l 195 sp_mbehind := by
  refine z_V.ofP (by decide +kernel) ?_
  rintro as σ K Post ⟨now, was, kept, isk, ln, sp, ls, ld, tb, rd, und, gon, lef, ak, vn, dy, asd, lma, lim, rea, sts, apr, tz, spo, wro, num, nuA, stl, spe, wan, fou, M, rfl, hN, hO, p, y, rfl, hp, ⟨y1, y2⟩, hK⟩ hP1 hP0
  have hx := hO.mx 2 (by omega)
  have hG2 : ∀ p, p < 16 → gvM M y p < 65536 := fun p _ => gvM_lt hO y p
  have outer : ∀ (n B a : Nat) (x3 x4 : Int32) (v5 v6 : Option Value), n = 2 * (16 - cntF B.testBit 16) + (if a = 0 then 0 else 1) → x3 = iI (B : Int) → x4 = iI (a : Int) → B < 65536 → a < 65536 → (∀ q, B.testBit q = true → Rc (gvM M y) p q) → (∀ i, a.testBit i = true → i = p ∨ B.testBit i = true) → (∀ i, i < 16 → (i = p ∨ B.testBit i = true) → a.testBit i = false → ∀ j, (gvM M y i).testBit j = true → B.testBit j = true) →
      AW l 195 2 0 0 11 none Post 7 [some (.ref 0), some (.int (iI p)), some (.int (iI y)), some (.int x3), some (.int x4), v5, v6] [] (wMd now was kept isk ln sp ls ld tb rd und gon lef ak vn dy asd lma lim rea sts apr tz spo wro num nuA stl spe wan fou) 0 0 := by
    intro n
    induction n using Nat.strongRecOn with
    | ind n ih =>
      intro B a x3 x4 v5 v6 hn e3 e4 hB ha h1 h2 h3
      subst e3; subst e4
      have inner : ∀ (q k : Nat) (x5 x6 : Int32), a ≠ 0 → q = M.1 2 - k → k ≤ M.1 2 → x5 = iI (nxB M y a k : Nat) → x6 = iI (k : Int) →
          AW l 195 2 0 0 11 none Post 18 [some (.ref 0), some (.int (iI p)), some (.int (iI y)), some (.int (iI (B : Int))), some (.int (iI (a : Int))), some (.int x5), some (.int x6)] [] (wMd now was kept isk ln sp ls ld tb rd und gon lef ak vn dy asd lma lim rea sts apr tz spo wro num nuA stl spe wan fou) 0 0 := by
        intro q
        induction q using Nat.strongRecOn with
        | ind q ihq =>
          intro k x5 x6 ha0 hq hk e5 e6
          subst e5; subst e6
          refine AW.go (bs := b_Mod_behind) [7, 18] 90 t_Mod_behind ?_
          refine ⟨_, v_mmany l, by decide, _, _, _, _, _, _, _, _, _, _, _, _, _, _, _, _, _, _, _, _, _, _, _, _, _, _, _, _, _, _, _, M, rfl, hN, hO, 2, rfl, by omega, ?_⟩
          refine And.intro (fun h => ?_) (fun h => ?_)
          · rw [zc_ge (by omega) (by omega) (by omega) (by omega)] at h
            have : k = M.1 2 := by omega
            subst this
            have hnx := nxB_lt hO y a (Nat.le_refl (M.1 2))
            have hor : B ||| nxB M y a (M.1 2) < 65536 := Nat.or_lt_two_pow (n := 16) hB hnx
            have hsub : ∀ i, B.testBit i = true → (B ||| nxB M y a (M.1 2)).testBit i = true := fun i hi => by rw [Nat.testBit_or, hi, Bool.true_or]
            show AW _ _ _ _ _ _ _ _ _ _ _ _ _ _
            rw [zb_andn hnx hB, zb_or]
            refine ih _ ?_ (B ||| nxB M y a (M.1 2)) (nxB M y a (M.1 2) &&& (B ^^^ 65535)) _ _ _ _ rfl rfl rfl hor (andn_lt hnx) (fun j hj => ?_) (fun i hi => ?_) (fun i hi hV hna j hj => ?_)
            · rw [hn, if_neg ha0]
              by_cases hz : nxB M y a (M.1 2) &&& (B ^^^ 65535) = 0
              · rw [if_pos hz]
                have := cntF_mono hsub 16
                omega
              · rw [if_neg hz]
                obtain ⟨i, hi⟩ : ∃ i, (nxB M y a (M.1 2) &&& (B ^^^ 65535)).testBit i = true := Nat.exists_testBit_of_ne_zero hz
                rw [andn_test hnx, Bool.and_eq_true, Bool.not_eq_true'] at hi
                have hi16 : i < 16 := by
                  apply Nat.lt_of_not_le
                  intro q
                  rw [Nat.testBit_lt_two_pow (Nat.lt_of_lt_of_le hnx (show (65536 : Nat) ≤ 2 ^ _ from Nat.pow_le_pow_right (n := 2) (by decide) q))] at hi
                  cases hi.1
                have := cntF_lt hsub hi16 hi.2 (by rw [Nat.testBit_or, hi.1, Bool.or_true])
                have := cntF_le (B ||| nxB M y a (M.1 2)).testBit 16
                omega
            · rw [Nat.testBit_or, Bool.or_eq_true, nxB_test hO] at hj
              rcases hj with hj | ⟨i, i1, i2, i3⟩
              · exact h1 j hj
              · rcases h2 i i2 with e | e
                · subst e; exact fun Q q1 q2 => q1 j i3
                · exact fun Q q1 q2 => q2 i j i1 (h1 i e Q q1 q2) i3
            · rw [andn_test hnx, Bool.and_eq_true] at hi
              exact Or.inr (by rw [Nat.testBit_or, hi.1, Bool.or_true])
            · rw [andn_test hnx] at hna
              have hV' : i = p ∨ B.testBit i = true := by
                rcases hV with e | e
                · exact Or.inl e
                · rw [Nat.testBit_or, Bool.or_eq_true] at e
                  rcases e with e | e
                  · exact Or.inr e
                  · rw [e, Bool.true_and, Bool.not_eq_false'] at hna; exact Or.inr hna
              cases hai : a.testBit i with
              | true => rw [Nat.testBit_or, (nxB_test hO y a j).mpr ⟨i, hi, hai, hj⟩, Bool.or_true]
              | false => exact hsub j (h3 i hi hV' hai j hj)
          rw [zc_ge (by omega) (by omega) (by omega) (by omega)] at h
          have hk2 : k < M.1 2 := by omega
          have c := hO.2.2.1 k hk2
          have ht := hO.tk hk2
          have hg := hO.gv hk2
          have skip : (a.testBit (gvr M k) && cov M 2 k y) = false → AW l 195 2 0 0 11 none Post 18 [some (.ref 0), some (.int (iI p)), some (.int (iI y)), some (.int (iI (B : Int))), some (.int (iI (a : Int))), some (.int (iI (nxB M y a k : Nat))), some (.int (iI (k : Int) + z_nn 1 0))] [] (wMd now was kept isk ln sp ls ld tb rd und gon lef ak vn dy asd lma lim rea sts apr tz spo wro num nuA stl spe wan fou) 0 0 := by
            intro e
            exact ihq _ (by omega) (k + 1) _ _ ha0 rfl (by omega) (by unfold nxB; rw [bitsF, e]; rfl) (zn_inc k)
          refine ⟨_, v_mentryOf l, by decide, _, _, _, _, _, _, _, _, _, _, _, _, _, _, _, _, _, _, _, _, _, _, _, _, _, _, _, _, _, _, _, M, rfl, hN, hO, 2, k, 0, rfl, by omega, hk2, by decide, ?_⟩
          show ∃ sp : Sp, _
          rw [hg.1]
          refine ⟨_, v_mhas l, by decide, rfl, a, gvr M k, rfl, by omega, by omega, ?_⟩
          refine And.intro (fun h4 => ?_) (fun h4 => ?_)
          · rw [zc_beq] at h4
            exact skip (by rw [h4, Bool.false_and])
          rw [zc_beq, Bool.not_eq_false] at h4
          refine ⟨_, v_mentryOf l, by decide, _, _, _, _, _, _, _, _, _, _, _, _, _, _, _, _, _, _, _, _, _, _, _, _, _, _, _, _, _, _, _, M, rfl, hN, hO, 2, k, 2, rfl, by omega, hk2, by decide, ?_⟩
          refine ⟨_, v_mentryOf l, by decide, _, _, _, _, _, _, _, _, _, _, _, _, _, _, _, _, _, _, _, _, _, _, _, _, _, _, _, _, _, _, _, M, rfl, hN, hO, 2, k, 3, rfl, by omega, hk2, by decide, ?_⟩
          refine ⟨_, v_in l, by decide, rfl, y, M.2.1 2 k 2, M.2.1 2 k 3, _, _, _, rfl, l_i y1 y2, l_i (by omega) (by omega), l_i (by omega) (by omega), ⟨by omega, by omega⟩, ⟨by omega, by omega⟩, ⟨by omega, by omega⟩, ?_⟩
          have ec : decide (M.2.1 2 k 2 ≤ y ∧ y ≤ M.2.1 2 k 3) = cov M 2 k y := by
            unfold cov; rw [Bool.decide_and]; rfl
          rw [ec]
          refine And.intro (fun h5 => ?_) (fun h5 => ?_)
          · rw [zc_beq] at h5
            exact skip (by rw [h5, Bool.and_false])
          rw [zc_beq, Bool.not_eq_false] at h5
          refine ⟨_, v_mentryOf l, by decide, _, _, _, _, _, _, _, _, _, _, _, _, _, _, _, _, _, _, _, _, _, _, _, _, _, _, _, _, _, _, _, M, rfl, hN, hO, 2, k, 1, rfl, by omega, hk2, by decide, ?_⟩
          refine ihq _ (by omega) (k + 1) _ _ ha0 rfl (by omega) ?_ (zn_inc k)
          rw [ht.1, show z_nn 1 0 = iI 1 from rfl, zb_shl _ (by omega), zb_or]
          unfold nxB
          rw [bitsF, h4, h5]; rfl
      refine AW.go (bs := b_Mod_behind) [7, 18] 90 t_Mod_behind ?_
      refine And.intro (fun h => ?_) (fun h => ?_)
      · rw [zc_eq0 (by omega) (by omega)] at h
        have ha0 : a = 0 := by omega
        have : B = rM (gvM M y) p := rM_eq hG2 hp h1 (h3 p hp (Or.inl rfl) (by rw [ha0]; simp)) (fun i j hi hs hj => h3 i hi (Or.inr hs) (by rw [ha0]; simp) j hj)
        rw [← this] at hK
        exact hP0 _ hK
      · rw [zc_eq0 (by omega) (by omega)] at h
        exact inner _ 0 _ _ (by omega) rfl (by omega) rfl rfl
  have hpw : 2 ^ p < 65536 := Nat.pow_lt_pow_right (n := 16) (by decide) hp
  refine AW.go (bs := b_Mod_behind) [7] 90 t_Mod_behind ?_
  refine outer _ 0 (2 ^ p) _ _ _ _ rfl rfl ?_ (by omega) hpw (fun q hq => by simp at hq) (fun i hi => ?_) (fun i hi hV hna => ?_)
  · rw [show z_nn 1 0 = iI 1 from rfl, zb_shl p (by omega)]
  · rw [Nat.testBit_two_pow, decide_eq_true_iff] at hi; exact Or.inl hi.symm
  · rcases hV with e | e
    · subst e; rw [Nat.testBit_two_pow, decide_eq_true rfl] at hna; cases hna
    · simp at e
set_option maxRecDepth 20000 in
theorem v_mring (l : Launch) : z_V l 196 (m1 40 (qp q_ring)) := by
  refine z_V.ofP (by decide +kernel) ?_
  rintro as σ K Post ⟨S, ⟨hOS, now, was, kept, isk, ln, sp, ls, ld, tb, rd, und, gon, lef, ak, vn, dy, asd, lma, lim, rea, sts, apr, tz, spo, wro, num, nuA, stl, spe, wan, fou, rfl, hMR⟩, y, rfl, ⟨y1, y2⟩, hK⟩ hP1 hP0
  obtain ⟨hN, h2_, rfl, h4_, h5_, h6_, h7_, rfl, rfl, rfl, h11_⟩ := id hMR
  have hO := hOS.1
  have hx4 := hO.2.2.2.2.2.2.2.2.2 4 (by omega)
  rw [x_4] at hx4
  have hx5 := hO.2.2.2.2.2.2.2.2.2 5 (by omega)
  rw [x_5] at hx5
  unfold qp q_ring at hK
  simp only [] at hK
  have loop : ∀ (n k : Nat) (x2 x3 : Int32), (0 ≤ y ∧ y ≤ 999) → n = 16 - k → k ≤ 16 → x3 = iI (k : Int) → x2 = iI (bitsF (fun p => (rM (gvM S.1 y) p).testBit p) id k : Nat) →
      AW l 196 40 0 0 11 none Post 13 [some (.ref 0), some (.int (iI y)), some (.int x2), some (.int x3)] [] (wMd now was kept isk ln sp ls ld tb rd (iI S.2.1.length) (iI (-1)) (iI (-1)) ak vn dy asd lma lim rea sts apr (iI S.2.2.2.1) spo wro num nuA stl spe wan fou) 0 0 := by
    intro n
    induction n using Nat.strongRecOn with
    | ind n ih =>
      intro k x2 x3 hc hn hk e3 e2
      subst e2; subst e3
      refine AW.go (bs := b_Mod_ring) [13] 60 t_Mod_ring ?_
      refine And.intro (fun h => ?_) (fun h => ?_)
      · rw [zn_i, zc_ge (by omega) (by omega) (by omega) (by omega)] at h
        have : k = 16 := by omega
        subst this
        rw [if_pos hc] at hK
        exact hP1 _ _ (hK _ (isMd.mk hOS hMR))
      rw [zn_i, zc_ge (by omega) (by omega) (by omega) (by omega)] at h
      refine ⟨_, v_mbehind l, by decide, _, _, _, _, _, _, _, _, _, _, _, _, _, _, _, _, _, _, _, _, _, _, _, _, _, _, _, _, _, _, _, S.1, rfl, hN, hO, k, y, rfl, by omega, ⟨y1, y2⟩, ?_⟩
      have hlt : rM (gvM S.1 y) k < 65536 := bitsF_lt (w := 16) (fun k hk _ => hk)
      refine ⟨_, v_mhas l, by decide, rfl, rM (gvM S.1 y) k, k, rfl, by omega, by omega, ?_⟩
      refine And.intro (fun h8 => ?_) (fun h8 => ?_)
      · rw [zc_beq] at h8
        refine ih _ (by omega) (k + 1) _ _ hc rfl (by omega) (zn_inc k) ?_
        rw [show z_nn 0 0 = iI ((0 : Nat) : Int) from rfl, zb_or, Nat.or_zero, bitsF, h8]; rfl
      · rw [zc_beq, Bool.not_eq_false] at h8
        refine ih _ (by omega) (k + 1) _ _ hc rfl (by omega) (zn_inc k) ?_
        rw [show z_nn 1 0 = iI 1 from rfl, zb_shl k (by omega), zb_or, bitsF, h8]; rfl
  refine AW.go (bs := b_Mod_ring) [13] 60 t_Mod_ring ?_
  refine ⟨_, v_misDay l, by decide, rfl, y, rfl, ⟨y1, y2⟩, ?_⟩
  refine And.symm (And.intro (fun h => ?_) (fun h => ?_))
  · rw [zc_bne, decide_eq_true_eq] at h
    rw [if_neg h] at hK
    exact hP1 _ _ (hK _ (isMd.mk hOS hMR))
  rw [zc_bne, decide_eq_true_eq] at h
  exact loop _ 0 _ _ h rfl (by omega) rfl rfl
