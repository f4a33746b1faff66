def sp_mmostOf : Sp := spT oX
set_option maxRecDepth 20000 in
theorem v_mmostOf (l : Launch) : z_V l 218 sp_mmostOf := by
  refine z_V.ofP (by decide +kernel) ?_
  rintro as σ K Post ⟨rfl, d, rfl, hd, hK⟩ hP1 hP0
  refine AW.go (bs := b_Mod_mostOf) [] 60 t_Mod_mostOf ?_
  refine And.intro (fun h => ?_) (fun h => ?_)
  · rw [zn_i, zc_ne (by omega) (by omega) (by omega) (by omega)] at h
    have : d = 0 ∨ d = 1 ∨ d = 2 := by omega
    rcases this with rfl | rfl | rfl <;> exact hP0 _ hK
  · rw [zn_i, zc_ne (by omega) (by omega) (by omega) (by omega), Classical.not_not] at h
    have : d = 3 := by omega
    subst this
    exact hP0 _ hK
def sp_mcomesEntry : Sp := spMd 3 (fun S as K => ∃ (d : Nat) (a b c x e : Int), as = [.ref 0, .int (iI d), .int (iI a), .int (iI b), .int (iI c), .int (iI x), .int (iI e)] ∧ d < 4 ∧ rowOK (S.1.1 4) d (S.1.1 d) (fun i => [a, b, c, x, e].getD i 0) ∧ K (some (.int (iI (f_add S d (fun i => [a, b, c, x, e].getD i 0)).1))) (f_add S d (fun i => [a, b, c, x, e].getD i 0)).2)
set_option maxRecDepth 20000 in
theorem v_mcomesEntry (l : Launch) : z_V l 219 sp_mcomesEntry := by
  refine z_V.ofP (by decide +kernel) ?_
  rintro as σ K Post ⟨S, ⟨hOS, now, was, kept, isk, ln, sp, ls, ld, tb, rd, und, gon, lef, ak, vn, dy, asd, lma, lim, rea, sts, apr, tz, spo, wro, num, nuA, stl, spe, wan, fou, rfl, hMR⟩, d, a, b, c, x, e, rfl, hd, hrow, hK⟩ hP1 hP0
  obtain ⟨hN, h2_, rfl, h4_, h5_, h6_, h7_, rfl, rfl, rfl, h11_⟩ := id hMR
  have hO := hOS.1
  have hx4 := hO.2.2.2.2.2.2.2.2.2 4 (by omega)
  rw [x_4] at hx4
  have hx5 := hO.2.2.2.2.2.2.2.2.2 5 (by omega)
  rw [x_5] at hx5
  unfold f_add at hK
  have hx := hO.2.2.2.2.2.2.2.2.2 d (by omega)
  have hx24 : oX d ≤ 24 := by rcases d4 hd with rfl | rfl | rfl | rfl <;> decide
  have hw5 : 2 ≤ oW d ∧ oW d ≤ 5 := by rcases d4 hd with rfl | rfl | rfl | rfl <;> decide
  have em : mS d = 1 + d := by rcases d4 hd with rfl | rfl | rfl | rfl <;> rfl
  have loop : ∀ (n i : Nat) (x9 : Int32) (now' was' : Nat → Int32) (und' : Int32), S.1.1 d < oX d → und' = iI (hisA S.2.1 S.1).length → (∀ (i : Nat) (M : Od), (hisA S.2.1 S.1)[i]? = some M → RM (rwI was' i) M) → n = oW d - i → i ≤ oW d → x9 = iI (i : Int) → (∀ j, j < i → now' (mi d (S.1.1 d) j) = iI ([a, b, c, x, e].getD j 0)) → (∀ y, (∀ j, j < oW d → y ≠ mi d (S.1.1 d) j) → now' y = now y) →
      AW l 219 3 0 0 11 none Post 40 [some (.ref 0), some (.int (iI d)), some (.int (iI a)), some (.int (iI b)), some (.int (iI c)), some (.int (iI x)), some (.int (iI e)), some (.int (iI (S.1.1 d : Nat))), some (.int (iI (mi d (S.1.1 d) 0 : Nat))), some (.int x9)] [] (wMd now' was' kept isk ln sp ls ld tb rd und' (iI (-1)) (iI (-1)) ak vn dy asd lma lim rea sts apr (iI S.2.2.2.1) spo wro num nuA stl spe wan fou) 0 0 := by
    intro n
    induction n using Nat.strongRecOn with
    | ind n ih =>
      intro i x9 now' was' und' hfull hund hW hn hi e9 h1 h2
      subst e9; subst hund
      have hz0 := mi_lt' (c := 0) (by omega : d < 6) hfull (by omega)
      refine AW.go (bs := b_Mod_comesEntry) [40, 101] 90 t_Mod_comesEntry ?_
      refine ⟨_, v_mlongOf l, by decide, rfl, d, rfl, hd, ?_⟩
      refine And.intro (fun h => ?_) (fun h => ?_)
      · rw [zc_ge (by omega) (by omega) (by omega) (by omega)] at h
        have : i = oW d := by omega
        subst this
        have e1 : z_nn 1 0 + iI (d : Int) = iI ((mS d : Nat) : Int) := by rw [zn_i, iI_add, em]; rfl
        have hmS := mS_lt (show d < 6 by omega)
        have hnow : now' (mS d) = iI (S.1.1 d : Nat) := by
          rw [h2 _ (fun j hj => by have := mi_lt' (by omega : d < 6) hfull hj; omega)]
          exact hN.size d (by omega)
        show _ ∧ _
        rw [e1]
        refine And.intro (zN_in (by omega) (by omega)) ?_
        refine And.intro (zN_in (by omega) (by omega)) ?_
        show Post _ _
        rw [zN_cl (by omega), hnow]
        rw [if_pos hfull] at hK
        refine hP1 _ _ (hK _ (isMd.mk (act_ok hOS (oAdd_ok hO (by omega) hfull hrow)) (hMR.act (hN.add (by omega) hfull (fun j hj => ?_) ?_ (fun y y1 y2 => ?_)) hW)))
        · have := mi_lt' (by omega : d < 6) hfull hj
          unfold upd
          rw [if_neg (by omega), h1 j hj, mVal, if_neg (by omega)]
        · unfold upd; rw [if_pos rfl]; exact zn_inc _
        · unfold upd; rw [if_neg y1]; exact h2 y y2
      rw [zc_ge (by omega) (by omega) (by omega) (by omega)] at h
      have hzi := mi_lt' (by omega : d < 6) hfull (show i < oW d by omega)
      have st : ∀ v : Int32, v = iI ([a, b, c, x, e].getD i 0) → AW l 219 3 0 0 11 none Post 101 [some (.ref 0), some (.int (iI d)), some (.int (iI a)), some (.int (iI b)), some (.int (iI c)), some (.int (iI x)), some (.int (iI e)), some (.int (iI (S.1.1 d : Nat))), some (.int (iI (mi d (S.1.1 d) 0 : Nat))), some (.int (iI (i : Int)))] [.int v, .int (iI (mi d (S.1.1 d) 0 : Nat) + iI (i : Int)), .ref 1] (wMd now' was' kept isk ln sp ls ld tb rd (iI (hisA S.2.1 S.1).length) (iI (-1)) (iI (-1)) ak vn dy asd lma lim rea sts apr (iI S.2.2.2.1) spo wro num nuA stl spe wan fou) 0 0 := by
        intro v hv
        subst hv
        have ei : iI ((mi d (S.1.1 d) 0 : Nat) : Int) + iI (i : Int) = iI ((mi d (S.1.1 d) i : Nat) : Int) := by rw [iI_add]; congr 1
        rw [ei]
        refine AW.go (bs := b_Mod_comesEntry) [40] 90 t_Mod_comesEntry ?_
        refine And.intro (zN_in hzi.2 (by omega)) ?_
        show AW _ _ _ _ _ _ _ _ _ _ _ _ _ _
        rw [zN_cl (by omega)]
        refine ih _ (by omega) (i + 1) _ _ _ _ hfull rfl hW rfl (by omega) (zn_inc i) (fun j hj => ?_) (fun y hy => ?_)
        · unfold upd
          by_cases e1 : j = i
          · rw [if_pos (by rw [e1]), e1]
          · rw [if_neg (by unfold mi; omega)]; exact h1 j (by omega)
        · unfold upd; rw [if_neg (hy i (by omega))]; exact h2 y hy
      have ne : ∀ k : Nat, k < 10 → (z_cond .ne (iI (i : Int)) (z_nn k 0) ↔ i ≠ k) := fun k hk => by rw [zn_i, zc_ne (by omega) (by omega) (by omega) (by omega)]; omega
      refine And.symm (And.intro (fun h3 => ?_) (fun h3 => ?_))
      · rw [zc_ne0 (by omega) (by omega), Classical.not_not] at h3
        exact st _ (by rw [show i = 0 by omega]; rfl)
      rw [zc_ne0 (by omega) (by omega)] at h3
      refine And.symm (And.intro (fun h4 => ?_) (fun h4 => ?_))
      · rw [ne 1 (by omega), Classical.not_not] at h4
        exact st _ (by rw [h4]; rfl)
      rw [ne 1 (by omega)] at h4
      refine And.symm (And.intro (fun h5 => ?_) (fun h5 => ?_))
      · rw [ne 2 (by omega), Classical.not_not] at h5
        exact st _ (by rw [h5]; rfl)
      rw [ne 2 (by omega)] at h5
      refine And.symm (And.intro (fun h6 => ?_) (fun h6 => ?_))
      · rw [ne 3 (by omega), Classical.not_not] at h6
        exact st _ (by rw [h6]; rfl)
      rw [ne 3 (by omega)] at h6
      exact st _ (by rw [show i = 4 by omega]; rfl)
  refine AW.go (bs := b_Mod_comesEntry) [40] 90 t_Mod_comesEntry ?_
  refine ⟨_, v_mmany l, by decide, _, _, _, _, _, _, _, _, _, _, _, _, _, _, _, _, _, _, _, _, _, _, _, _, _, _, _, _, _, _, _, S.1, rfl, hN, hO, d, rfl, hd, ?_⟩
  refine ⟨_, v_mmostOf l, by decide, rfl, d, rfl, hd, ?_⟩
  refine And.symm (And.intro (fun h => ?_) (fun h => ?_))
  · rw [zc_ne (by omega) (by omega) (by omega) (by omega), Classical.not_not] at h
    rw [if_neg (by omega)] at hK
    exact hP1 _ _ (hK _ (isMd.mk hOS hMR))
  rw [zc_ne (by omega) (by omega) (by omega) (by omega)] at h
  refine ⟨_, v_mkeepsAct l, by decide, _, _, _, _, _, _, _, _, _, _, 0, _, _, _, _, _, _, _, _, _, _, _, _, _, _, _, _, _, _, _, _, S.1, S.2.1, rfl, rfl, hN, hOS.2.2.1, h2_, fun was' hW => ?_⟩
  refine ⟨_, v_mbeginOf l, by decide, rfl, d, rfl, hd, ?_⟩
  refine ⟨_, v_mlongOf l, by decide, rfl, d, rfl, hd, ?_⟩
  have ei : iI ((mB d : Nat) : Int) + iI ((oW d : Nat) : Int) * iI (S.1.1 d : Int) = iI ((mi d (S.1.1 d) 0 : Nat) : Int) := by rw [iI_mul, iI_add]; rfl
  show AW _ _ _ _ _ _ _ _ _ _ _ _ _ _
  rw [ei]
  exact loop _ 0 _ _ _ _ (by omega) rfl hW rfl (by omega) rfl (fun j hj => by omega) (fun _ _ => rfl)
set_option maxRecDepth 20000 in
theorem v_mhold (l : Launch) : z_V l 220 (m4 40 f_hold) := by
  refine z_V.ofP (by decide +kernel) ?_
  rintro as σ K Post ⟨S, hA, o, p, u, v, rfl, ⟨o1, o2⟩, ⟨p1, p2⟩, ⟨u1, u2⟩, ⟨v1, v2⟩, hK⟩ hP1 hP0
  have hA0 := hA
  obtain ⟨hOS, now, was, kept, isk, ln, sp, ls, ld, tb, rd, und, gon, lef, ak, vn, dy, asd, lma, lim, rea, sts, apr, tz, spo, wro, num, nuA, stl, spe, wan, fou, rfl, hMR⟩ := hA
  obtain ⟨hN, h2_, rfl, h4_, h5_, h6_, h7_, rfl, rfl, rfl, h11_⟩ := id hMR
  have hO := hOS.1
  have hx4 := hO.2.2.2.2.2.2.2.2.2 4 (by omega)
  rw [x_4] at hx4
  have hx5 := hO.2.2.2.2.2.2.2.2.2 5 (by omega)
  rw [x_5] at hx5
  unfold f_hold at hK
  have fail : Unit → ¬ (0 ≤ o ∧ o < S.1.1 4 ∧ 0 ≤ p ∧ p ≤ 15 ∧ 0 ≤ u ∧ u ≤ v ∧ v ≤ 999) → Post (some (.int (iI (-1)))) (wMd now was kept isk ln sp ls ld tb rd (iI S.2.1.length) (iI (-1)) (iI (-1)) ak vn dy asd lma lim rea sts apr (iI S.2.2.2.1) spo wro num nuA stl spe wan fou) := by
    intro _ hn; rw [if_neg hn] at hK; exact hP1 _ _ (hK _ (isMd.mk hOS hMR))
  refine AW.go (bs := b_Mod_hold) [] 60 t_Mod_hold ?_
  refine ⟨_, v_misPost l, by decide, _, _, _, _, _, _, _, _, _, _, _, _, _, _, _, _, _, _, _, _, _, _, _, _, _, _, _, _, _, _, _, S.1, rfl, hN, hO, o, rfl, ⟨o1, o2⟩, ?_⟩
  refine And.intro (fun h => ?_) (fun h => ?_)
  · rw [zc_beq, decide_eq_false_iff_not] at h; exact fail () (by omega)
  rw [zc_beq, decide_eq_false_iff_not, Classical.not_not] at h
  refine ⟨_, v_misPerson l, by decide, rfl, p, rfl, ⟨p1, p2⟩, ?_⟩
  refine And.intro (fun h => ?_) (fun h => ?_)
  · rw [zc_beq, decide_eq_false_iff_not] at h; exact fail () (by omega)
  rw [zc_beq, decide_eq_false_iff_not, Classical.not_not] at h
  refine ⟨_, v_mareDays l, by decide, rfl, u, v, rfl, ⟨u1, u2⟩, ⟨v1, v2⟩, ?_⟩
  refine And.intro (fun h => ?_) (fun h => ?_)
  · rw [zc_beq, dys, decide_eq_false_iff_not] at h; exact fail () (by omega)
  rw [zc_beq, dys, decide_eq_false_iff_not, Classical.not_not] at h
  rw [if_pos (by omega)] at hK
  refine ⟨_, v_mcomesEntry l, by decide, S, hA0, 0, o, p, u, v, 0, rfl, by omega, ?_, fun σ' hA' => ?_⟩
  · show 0 ≤ o ∧ o < S.1.1 4 ∧ 0 ≤ p ∧ p < 16 ∧ 0 ≤ u ∧ u ≤ v ∧ v ≤ 999
    omega
  · obtain ⟨hOS', now, was, kept, isk, ln, sp, ls, ld, tb, rd, und, gon, lef, ak, vn, dy, asd, lma, lim, rea, sts, apr, tz, spo, wro, num, nuA, stl, spe, wan, fou, rfl, hMR'⟩ := hA'
    exact hP1 _ _ (hK _ (isMd.mk hOS' hMR'))
set_option maxRecDepth 20000 in
theorem v_maway (l : Launch) : z_V l 221 (m3 40 f_away) := by
  refine z_V.ofP (by decide +kernel) ?_
  rintro as σ K Post ⟨S, hA, p, u, v, rfl, ⟨p1, p2⟩, ⟨u1, u2⟩, ⟨v1, v2⟩, hK⟩ hP1 hP0
  have hA0 := hA
  obtain ⟨hOS, now, was, kept, isk, ln, sp, ls, ld, tb, rd, und, gon, lef, ak, vn, dy, asd, lma, lim, rea, sts, apr, tz, spo, wro, num, nuA, stl, spe, wan, fou, rfl, hMR⟩ := hA
  obtain ⟨hN, h2_, rfl, h4_, h5_, h6_, h7_, rfl, rfl, rfl, h11_⟩ := id hMR
  have hO := hOS.1
  have hx4 := hO.2.2.2.2.2.2.2.2.2 4 (by omega)
  rw [x_4] at hx4
  have hx5 := hO.2.2.2.2.2.2.2.2.2 5 (by omega)
  rw [x_5] at hx5
  unfold f_away at hK
  have fail : Unit → ¬ (0 ≤ p ∧ p ≤ 15 ∧ 0 ≤ u ∧ u ≤ v ∧ v ≤ 999) → Post (some (.int (iI (-1)))) (wMd now was kept isk ln sp ls ld tb rd (iI S.2.1.length) (iI (-1)) (iI (-1)) ak vn dy asd lma lim rea sts apr (iI S.2.2.2.1) spo wro num nuA stl spe wan fou) := by
    intro _ hn; rw [if_neg hn] at hK; exact hP1 _ _ (hK _ (isMd.mk hOS hMR))
  refine AW.go (bs := b_Mod_away) [] 60 t_Mod_away ?_
  refine ⟨_, v_misPerson l, by decide, rfl, p, rfl, ⟨p1, p2⟩, ?_⟩
  refine And.intro (fun h => ?_) (fun h => ?_)
  · rw [zc_beq, decide_eq_false_iff_not] at h; exact fail () (by omega)
  rw [zc_beq, decide_eq_false_iff_not, Classical.not_not] at h
  refine ⟨_, v_mareDays l, by decide, rfl, u, v, rfl, ⟨u1, u2⟩, ⟨v1, v2⟩, ?_⟩
  refine And.intro (fun h => ?_) (fun h => ?_)
  · rw [zc_beq, dys, decide_eq_false_iff_not] at h; exact fail () (by omega)
  rw [zc_beq, dys, decide_eq_false_iff_not, Classical.not_not] at h
  rw [if_pos (by omega)] at hK
  refine ⟨_, v_mcomesEntry l, by decide, S, hA0, 1, p, u, v, 0, 0, rfl, by omega, ?_, fun σ' hA' => ?_⟩
  · show 0 ≤ p ∧ p < 16 ∧ 0 ≤ u ∧ u ≤ v ∧ v ≤ 999
    omega
  · obtain ⟨hOS', now, was, kept, isk, ln, sp, ls, ld, tb, rd, und, gon, lef, ak, vn, dy, asd, lma, lim, rea, sts, apr, tz, spo, wro, num, nuA, stl, spe, wan, fou, rfl, hMR'⟩ := hA'
    exact hP1 _ _ (hK _ (isMd.mk hOS' hMR'))
set_option maxRecDepth 20000 in
theorem v_mstand (l : Launch) : z_V l 222 (m5 40 f_stand) := by
  refine z_V.ofP (by decide +kernel) ?_
  rintro as σ K Post ⟨S, hA, p, q, u, v, x, rfl, ⟨p1, p2⟩, ⟨q1, q2⟩, ⟨u1, u2⟩, ⟨v1, v2⟩, ⟨x1, x2⟩, hK⟩ hP1 hP0
  have hA0 := hA
  obtain ⟨hOS, now, was, kept, isk, ln, sp, ls, ld, tb, rd, und, gon, lef, ak, vn, dy, asd, lma, lim, rea, sts, apr, tz, spo, wro, num, nuA, stl, spe, wan, fou, rfl, hMR⟩ := hA
  obtain ⟨hN, h2_, rfl, h4_, h5_, h6_, h7_, rfl, rfl, rfl, h11_⟩ := id hMR
  have hO := hOS.1
  have hx4 := hO.2.2.2.2.2.2.2.2.2 4 (by omega)
  rw [x_4] at hx4
  have hx5 := hO.2.2.2.2.2.2.2.2.2 5 (by omega)
  rw [x_5] at hx5
  unfold f_stand at hK
  have no : Unit → ¬ (0 ≤ p ∧ p ≤ 15 ∧ 0 ≤ q ∧ q ≤ 15 ∧ p ≠ q ∧ 0 ≤ u ∧ u ≤ v ∧ v ≤ 999 ∧ 0 ≤ x ∧ x ≤ 9999) → AW l 222 40 0 0 11 none Post 46 [some (.ref 0), some (.int (iI p)), some (.int (iI q)), some (.int (iI u)), some (.int (iI v)), some (.int (iI x)), none] [.int (z_nn 0 0)] (wMd now was kept isk ln sp ls ld tb rd (iI S.2.1.length) (iI (-1)) (iI (-1)) ak vn dy asd lma lim rea sts apr (iI S.2.2.2.1) spo wro num nuA stl spe wan fou) 0 0 := by
    intro _ hn
    rw [if_neg hn] at hK
    refine AW.go (bs := b_Mod_stand) [] 60 t_Mod_stand ?_
    refine And.intro (fun _ => ?_) (fun h => absurd (show z_nn 0 0 = 0 by decide) h)
    exact hP1 _ _ (hK _ (isMd.mk hOS hMR))
  refine AW.go (bs := b_Mod_stand) [46] 60 t_Mod_stand ?_
  refine ⟨_, v_misPerson l, by decide, rfl, p, rfl, ⟨p1, p2⟩, ?_⟩
  refine And.intro (fun h => ?_) (fun h => ?_)
  · rw [zc_beq, decide_eq_false_iff_not] at h; exact no () (by omega)
  rw [zc_beq, decide_eq_false_iff_not, Classical.not_not] at h
  refine ⟨_, v_misPerson l, by decide, rfl, q, rfl, ⟨q1, q2⟩, ?_⟩
  refine And.intro (fun h => ?_) (fun h => ?_)
  · rw [zc_beq, decide_eq_false_iff_not] at h; exact no () (by omega)
  rw [zc_beq, decide_eq_false_iff_not, Classical.not_not] at h
  refine And.intro (fun h => ?_) (fun h => ?_)
  · rw [zc_eq p1 p2 q1 q2] at h; exact no () (by omega)
  rw [zc_eq p1 p2 q1 q2] at h
  refine ⟨_, v_mareDays l, by decide, rfl, u, v, rfl, ⟨u1, u2⟩, ⟨v1, v2⟩, ?_⟩
  refine And.intro (fun h => ?_) (fun h => ?_)
  · rw [zc_beq, dys, decide_eq_false_iff_not] at h; exact no () (by omega)
  rw [zc_beq, dys, decide_eq_false_iff_not, Classical.not_not] at h
  refine ⟨_, v_in l, by decide, rfl, x, 0, 9999, _, _, _, rfl, l_i x1 x2, l_0, l_k 9999, ⟨by omega, by omega⟩, ⟨by omega, by omega⟩, ⟨by omega, by omega⟩, ?_⟩
  refine And.intro (fun h => ?_) (fun h => ?_)
  · rw [zc_beq, decide_eq_false_iff_not] at h; exact no () (by omega)
  rw [zc_beq, decide_eq_false_iff_not, Classical.not_not] at h
  rw [if_pos (by omega)] at hK
  refine AW.go (bs := b_Mod_stand) [] 60 t_Mod_stand ?_
  refine And.intro (fun h => absurd h (show ¬ z_nn 1 0 = 0 by decide)) (fun _ => ?_)
  refine ⟨_, v_mcomesEntry l, by decide, S, hA0, 2, p, q, u, v, x, rfl, by omega, ?_, fun σ' hA' => ?_⟩
  · show 0 ≤ p ∧ p < 16 ∧ 0 ≤ q ∧ q < 16 ∧ p ≠ q ∧ 0 ≤ u ∧ u ≤ v ∧ v ≤ 999 ∧ 0 ≤ x ∧ x ≤ 9999
    omega
  · obtain ⟨hOS', now, was, kept, isk, ln, sp, ls, ld, tb, rd, und, gon, lef, ak, vn, dy, asd, lma, lim, rea, sts, apr, tz, spo, wro, num, nuA, stl, spe, wan, fou, rfl, hMR'⟩ := hA'
    exact hP1 _ _ (hK _ (isMd.mk hOS' hMR'))
set_option maxRecDepth 20000 in
theorem v_mfoe (l : Launch) : z_V l 223 (m2 40 f_foe) := by
  refine z_V.ofP (by decide +kernel) ?_
  rintro as σ K Post ⟨S, hA, p, v, rfl, ⟨p1, p2⟩, ⟨v1, v2⟩, hK⟩ hP1 hP0
  have hA0 := hA
  obtain ⟨hOS, now, was, kept, isk, ln, sp, ls, ld, tb, rd, und, gon, lef, ak, vn, dy, asd, lma, lim, rea, sts, apr, tz, spo, wro, num, nuA, stl, spe, wan, fou, rfl, hMR⟩ := hA
  obtain ⟨hN, h2_, rfl, h4_, h5_, h6_, h7_, rfl, rfl, rfl, h11_⟩ := id hMR
  have hO := hOS.1
  have hx4 := hO.2.2.2.2.2.2.2.2.2 4 (by omega)
  rw [x_4] at hx4
  have hx5 := hO.2.2.2.2.2.2.2.2.2 5 (by omega)
  rw [x_5] at hx5
  unfold f_foe at hK
  have fail : Unit → ¬ (0 ≤ p ∧ p ≤ 15 ∧ 0 ≤ v ∧ v ≤ 9) → Post (some (.int (iI (-1)))) (wMd now was kept isk ln sp ls ld tb rd (iI S.2.1.length) (iI (-1)) (iI (-1)) ak vn dy asd lma lim rea sts apr (iI S.2.2.2.1) spo wro num nuA stl spe wan fou) := by
    intro _ hn; rw [if_neg hn] at hK; exact hP1 _ _ (hK _ (isMd.mk hOS hMR))
  have hx3 := hO.mx 3 (by omega)
  have loop : ∀ (n k : Nat) (x : Int32), (0 ≤ p ∧ p ≤ 15 ∧ 0 ≤ v ∧ v ≤ 9) → n = S.1.1 3 - k → k ≤ S.1.1 3 → x = iI (k : Int) → (∀ i, i < k → (decide (S.1.2.1 3 i 0 = p) && decide (S.1.2.1 3 i 1 = v)) = false) →
      AW l 223 40 0 0 11 none Post 23 [some (.ref 0), some (.int (iI p)), some (.int (iI v)), some (.int x)] [] (wMd now was kept isk ln sp ls ld tb rd (iI S.2.1.length) (iI (-1)) (iI (-1)) ak vn dy asd lma lim rea sts apr (iI S.2.2.2.1) spo wro num nuA stl spe wan fou) 0 0 := by
    intro n
    induction n using Nat.strongRecOn with
    | ind n ih =>
      intro k x hc hn hk e1 hh
      subst e1
      have et : (foeM S.1 v (S.1.1 3)).testBit p.toNat = foeP S.1 v p := by
        rw [foeM_test hO, show ((p.toNat : Nat) : Int) = p by omega]
      rw [if_pos hc, et] at hK
      have next : (decide (S.1.2.1 3 k 0 = p) && decide (S.1.2.1 3 k 1 = v)) = false → ∀ i, i < k + 1 → (decide (S.1.2.1 3 i 0 = p) && decide (S.1.2.1 3 i 1 = v)) = false := by
        intro h0 i hi
        rcases Nat.lt_or_ge i k with q | q
        · exact hh i q
        · rw [show i = k by omega]; exact h0
      refine AW.go (bs := b_Mod_foe) [23] 70 t_Mod_foe ?_
      refine ⟨_, v_mmany l, by decide, _, _, _, _, _, _, _, _, _, _, _, _, _, _, _, _, _, _, _, _, _, _, _, _, _, _, _, _, _, _, _, S.1, rfl, hN, hO, 3, rfl, by omega, ?_⟩
      refine And.intro (fun h => ?_) (fun h => ?_)
      · rw [zc_ge (by omega) (by omega) (by omega) (by omega)] at h
        rw [show foeP S.1 v p = false from any_range_false (fun i hi => hh i (by omega)), if_neg (by decide)] at hK
        refine ⟨_, v_mcomesEntry l, by decide, S, hA0, 3, p, v, 0, 0, 0, rfl, by omega, ?_, fun σ' hA' => ?_⟩
        · show 0 ≤ p ∧ p < 16 ∧ 0 ≤ v ∧ v < 10
          omega
        · obtain ⟨hOS', now, was, kept, isk, ln, sp, ls, ld, tb, rd, und, gon, lef, ak, vn, dy, asd, lma, lim, rea, sts, apr, tz, spo, wro, num, nuA, stl, spe, wan, fou, rfl, hMR'⟩ := hA'
          exact hP1 _ _ (hK _ (isMd.mk hOS' hMR'))
      rw [zc_ge (by omega) (by omega) (by omega) (by omega)] at h
      have hk1 : k < S.1.1 3 := by omega
      have c := hO.2.2.2.1 k hk1
      refine ⟨_, v_mentryOf l, by decide, _, _, _, _, _, _, _, _, _, _, _, _, _, _, _, _, _, _, _, _, _, _, _, _, _, _, _, _, _, _, _, S.1, rfl, hN, hO, 3, k, 0, rfl, by omega, hk1, by decide, ?_⟩
      refine And.intro (fun h3 => ?_) (fun h3 => ?_)
      · rw [zc_ne (by omega) (by omega) p1 p2] at h3
        exact ih _ (by omega) (k + 1) _ hc rfl (by omega) (zn_inc k) (next (by rw [decide_eq_false h3, Bool.false_and]))
      rw [zc_ne (by omega) (by omega) p1 p2, Classical.not_not] at h3
      refine ⟨_, v_mentryOf l, by decide, _, _, _, _, _, _, _, _, _, _, _, _, _, _, _, _, _, _, _, _, _, _, _, _, _, _, _, _, _, _, _, S.1, rfl, hN, hO, 3, k, 1, rfl, by omega, hk1, by decide, ?_⟩
      refine And.intro (fun h4 => ?_) (fun h4 => ?_)
      · rw [zc_ne (by omega) (by omega) v1 v2] at h4
        exact ih _ (by omega) (k + 1) _ hc rfl (by omega) (zn_inc k) (next (by rw [decide_eq_false h4, Bool.and_false]))
      · rw [zc_ne (by omega) (by omega) v1 v2, Classical.not_not] at h4
        rw [show foeP S.1 v p = true from any_range_true hk1 (by rw [decide_eq_true h3, decide_eq_true h4]; rfl), if_pos rfl] at hK
        exact hP1 _ _ (hK _ (isMd.mk hOS hMR))
  refine AW.go (bs := b_Mod_foe) [23] 70 t_Mod_foe ?_
  refine ⟨_, v_misPerson l, by decide, rfl, p, rfl, ⟨p1, p2⟩, ?_⟩
  refine And.intro (fun h => ?_) (fun h => ?_)
  · rw [zc_beq, decide_eq_false_iff_not] at h; exact fail () (by omega)
  rw [zc_beq, decide_eq_false_iff_not, Classical.not_not] at h
  refine ⟨_, v_in l, by decide, rfl, v, 0, 9, _, _, _, rfl, l_i v1 v2, l_0, l_k 9, ⟨by omega, by omega⟩, ⟨by omega, by omega⟩, ⟨by omega, by omega⟩, ?_⟩
  refine And.symm (And.intro (fun h => ?_) (fun h => ?_))
  · rw [zc_bne, decide_eq_true_eq] at h; exact fail () (by omega)
  rw [zc_bne, decide_eq_true_eq] at h
  exact loop _ 0 _ (by omega) rfl (by omega) rfl (fun i hi => by omega)
