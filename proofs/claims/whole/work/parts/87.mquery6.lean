set_option maxRecDepth 20000 in
theorem v_mapproved (l : Launch) : z_V l 205 (m1 40 (qp q_approved)) := by
  refine z_V.ofP (by decide +kernel) ?_
  rintro as σ K Post ⟨S, ⟨hOS, now, was, kept, isk, ln, sp, ls, ld, tb, rd, und, gon, lef, ak, vn, dy, asd, lma, lim, rea, sts, apr, tz, spo, wro, num, nuA, stl, spe, wan, fou, rfl, hMR⟩, c, rfl, ⟨c1, c2⟩, hK⟩ hP1 hP0
  obtain ⟨hN, h2_, rfl, h4_, h5_, h6_, h7_, rfl, rfl, rfl, h11_⟩ := id hMR
  have hO := hOS.1
  have hx4 := hO.2.2.2.2.2.2.2.2.2 4 (by omega)
  rw [x_4] at hx4
  have hx5 := hO.2.2.2.2.2.2.2.2.2 5 (by omega)
  rw [x_5] at hx5
  unfold qp q_approved at hK
  simp only [] at hK
  have loop : (0 ≤ c ∧ c ≤ 3) → ∀ (n i : Nat) (x2 x3 x4 x5 x6 : Int32) (v7 : Option Value) (sp ls ln : Nat → Int32) (ak vn dy asd lma lim rea sts apr : Int32), n = S.1.1 5 - i → i ≤ S.1.1 5 → x2 = iI ((apF S.1 i).1 : Nat) → x3 = iI (apF S.1 i).2.1 → x4 = iI (apF S.1 i).2.2.1 → x5 = iI (apF S.1 i).2.2.2 → x6 = iI (i : Int) →
      AW l 205 40 0 0 11 none Post 29 [some (.ref 0), some (.int (iI c)), some (.int x2), some (.int x3), some (.int x4), some (.int x5), some (.int x6), v7] [] (wMd now was kept isk ln sp ls ld tb rd (iI S.2.1.length) (iI (-1)) (iI (-1)) ak vn dy asd lma lim rea sts apr (iI S.2.2.2.1) spo wro num nuA stl spe wan fou) 0 0 := by
    intro hc n
    rw [if_pos hc] at hK
    induction n using Nat.strongRecOn with
    | ind n ih =>
      intro i x2 x3 x4 x5 x6 v7 sp ls ln ak vn dy asd lma lim rea sts apr hn hi e2 e3 e4 e5 e6
      subst e2; subst e3; subst e4; subst e5; subst e6
      have hb := apF_rng hO i hi
      refine AW.go (bs := b_Mod_approved) [29] 70 t_Mod_approved ?_
      refine ⟨_, v_mrequests l, by decide, _, _, _, _, _, _, _, _, _, _, _, _, _, _, _, _, _, _, _, _, _, _, _, _, _, _, _, _, _, _, _, S.1, rfl, hN, hO, rfl, ?_⟩
      refine And.intro (fun h => ?_) (fun h => ?_)
      · rw [zc_ge (by omega) (by omega) (by omega) (by omega)] at h
        have : i = S.1.1 5 := by omega
        subst this
        have ex : ∀ x : Int, 0 ≤ x → x ≤ 20 → iI c = Int32.ofInt x → c = x := fun x h0 h1 e => (iI_inj c1 c2 (by omega) (by omega)).mp e
        refine And.intro (fun h => ?_) ⟨fun h => ?_, fun h => ?_, fun h => ?_, trivial⟩
        · rw [iI_toInt c1 c2] at h
          have : c = 3 := by omega
          subst this
          exact hP1 _ _ (hK _ (isMd.mk hOS hMR))
        · have h := ex 0 (by omega) (by omega) h
          subst h
          exact hP1 _ _ (hK _ (isMd.mk hOS hMR))
        · have h := ex 1 (by omega) (by omega) h
          subst h
          exact hP1 _ _ (hK _ (isMd.mk hOS hMR))
        · have h := ex 2 (by omega) (by omega) h
          subst h
          exact hP1 _ _ (hK _ (isMd.mk hOS hMR))
      rw [zc_ge (by omega) (by omega) (by omega) (by omega)] at h
      have hr : i < S.1.1 5 := by omega
      have hc := hO.2.2.2.2.2.1 i hr
      have hw := whF_rng hO hr (S.1.2.1 5 i 5)
      have hwq : 1 ≤ wq S.1 i ∧ wq S.1 i ≤ 500000 := hw
      have hq := rq_ok hO hr
      refine ⟨_, v_misRecalled l, by decide, _, _, _, _, _, _, _, _, _, _, _, _, _, _, _, _, _, _, _, _, _, _, _, _, _, _, _, _, _, _, _, S.1, rfl, hN, hO, i, rfl, hr, ?_⟩
      refine And.symm (And.intro (fun g => ?_) (fun g => ?_))
      · rw [zc_beq, Bool.not_eq_false] at g
        have e : apF S.1 (i + 1) = apF S.1 i := by rw [apF, g]; rfl
        exact ih _ (by omega) (i + 1) _ _ _ _ _ _ _ _ _ _ _ _ _ _ _ _ _ _ rfl (by omega) (by rw [e]) (by rw [e]) (by rw [e]) (by rw [e]) (zn_inc i)
      rw [zc_beq] at g
      refine ⟨_, v_mroutes l, by decide, _, _, _, _, _, _, _, _, _, _, _, 0, 0, _, _, _, _, _, _, _, _, _, _, _, _, _, _, _, _, _, _, S.1, i, -1, -1, rfl, rfl, hN, hO, hr, ⟨by omega, by omega⟩, ⟨by omega, by omega⟩, fun sp ls ln ak vn dy asd lma lim rea sts apr hrt => ?_⟩
      have hrt0 : mRt (rq S.1 i) (wq S.1 i) sp ls sts apr := hrt
      have hne : rq S.1 i ≠ [] := routeF_ne (by omega) (by omega) (by omega)
      obtain ⟨hRR, rfl, rfl⟩ := hrt0
      have hrt1 : mRt (rq S.1 i) (wq S.1 i) sp ls (iI (rq S.1 i).length) (bI (decide (lC (rq S.1 i) (wq S.1 i) 4 = 0))) := ⟨hRR, rfl, rfl⟩
      have hl := lC_rng hq.1 (wq S.1 i) 1
      refine And.symm (And.intro (fun h => ?_) (fun h => ?_))
      · rw [zc_bne, Bool.not_eq_true] at h
        have e : apF S.1 (i + 1) = apF S.1 i := by rw [apF, apd, h, Bool.and_false]; rfl
        exact ih _ (by omega) (i + 1) _ _ _ _ _ _ _ _ _ _ _ _ _ _ _ _ _ _ rfl (by omega) (by rw [e]) (by rw [e]) (by rw [e]) (by rw [e]) (zn_inc i)
      rw [zc_bne] at h
      have e : apF S.1 (i + 1) = ((apF S.1 i).1 + 1, (apF S.1 i).2.1 + S.1.2.1 5 i 4, (if (apF S.1 i).2.2.1 < lC (rq S.1 i) (wq S.1 i) 1 - S.1.2.1 5 i 5 then (lC (rq S.1 i) (wq S.1 i) 1 - S.1.2.1 5 i 5, (i : Int)) else (apF S.1 i).2.2)) := by rw [apF, apd, g, h]; rfl
      refine ⟨_, v_mof l, by decide, _, _, _, _, _, _, _, _, _, _, _, _, _, _, _, _, _, _, _, _, _, _, _, _, _, _, _, _, _, _, _, S.1, rfl, hN, hO, i, 4, rfl, hr, by omega, ?_⟩
      refine ⟨_, v_mlast l, by decide, _, _, _, _, _, _, _, _, _, _, _, _, _, _, _, _, _, _, _, _, _, _, _, _, _, _, _, _, _, _, _, wq S.1 i, rq S.1 i, rfl, hrt1, hq.2, hne, 1, rfl, by omega, ?_⟩
      refine ⟨_, v_mof l, by decide, _, _, _, _, _, _, _, _, _, _, _, _, _, _, _, _, _, _, _, _, _, _, _, _, _, _, _, _, _, _, _, S.1, rfl, hN, hO, i, 5, rfl, hr, by omega, ?_⟩
      show _ ∧ _
      rw [iI_sub, iI_add]
      refine And.symm (And.intro (fun h2 => ?_) (fun h2 => ?_))
      · rw [zc_gt (by omega) (by omega) (by omega) (by omega)] at h2
        rw [if_neg (by omega)] at e
        exact ih _ (by omega) (i + 1) _ _ _ _ _ _ _ _ _ _ _ _ _ _ _ _ _ _ rfl (by omega) (by rw [e]; exact zn_inc _) (by rw [e]) (by rw [e]) (by rw [e]) (zn_inc i)
      · rw [zc_gt (by omega) (by omega) (by omega) (by omega)] at h2
        rw [if_pos (by omega)] at e
        exact ih _ (by omega) (i + 1) _ _ _ _ _ _ _ _ _ _ _ _ _ _ _ _ _ _ rfl (by omega) (by rw [e]; exact zn_inc _) (by rw [e]) (by rw [e]) (by rw [e]) (zn_inc i)
  refine AW.go (bs := b_Mod_approved) [29] 70 t_Mod_approved ?_
  refine ⟨_, v_in l, by decide, rfl, c, 0, 3, _, _, _, rfl, l_i c1 c2, l_0, l_k 3, ⟨by omega, by omega⟩, ⟨by omega, by omega⟩, ⟨by omega, by omega⟩, ?_⟩
  refine And.symm (And.intro (fun h => ?_) (fun h => ?_))
  · rw [zc_bne, decide_eq_true_eq] at h
    rw [if_neg h] at hK
    exact hP1 _ _ (hK _ (isMd.mk hOS hMR))
  rw [zc_bne, decide_eq_true_eq] at h
  exact loop (by omega) _ 0 _ _ _ _ _ _ _ _ _ _ _ _ _ _ _ _ _ _ rfl (by omega) rfl rfl rfl rfl rfl
theorem coF_fuel {M : Od} (hO : OKM M) (m : Mt) (y w : Int) : ∀ (n n' : Nat) (p : Int) (b : Nat), p < n → p < n' → coF M m y w n p b = coF M m y w n' p b
  | 0, 0, p, b, _, _ => rfl
  | 0, n' + 1, p, b, h, _ => by rw [coF, coF, if_neg (by omega)]
  | n + 1, 0, p, b, _, h => by rw [coF, coF, if_neg (by omega)]
  | n + 1, n' + 1, p, b, h, h' => by
    rw [coF, coF]
    split
    · next hc =>
      have h4 := (hO.2.2.2.2.1 p.toNat (by omega)).1
      exact coF_fuel hO m y w n n' _ _ (by omega) (by omega)
    · rfl
set_option maxRecDepth 20000 in
theorem v_mcould (l : Launch) : z_V l 206 (m1 40 (qp q_could)) := by
  refine z_V.ofP (by decide +kernel) ?_
  rintro as σ K Post ⟨S, ⟨hOS, now, was, kept, isk, ln, sp, ls, ld, tb, rd, und, gon, lef, ak, vn, dy, asd, lma, lim, rea, sts, apr, tz, spo, wro, num, nuA, stl, spe, wan, fou, rfl, hMR⟩, r, rfl, ⟨r1, r2⟩, hK⟩ hP1 hP0
  obtain ⟨hN, h2_, rfl, h4_, h5_, h6_, h7_, rfl, rfl, rfl, h11_⟩ := id hMR
  have hO := hOS.1
  have hx4 := hO.2.2.2.2.2.2.2.2.2 4 (by omega)
  rw [x_4] at hx4
  have hx5 := hO.2.2.2.2.2.2.2.2.2 5 (by omega)
  rw [x_5] at hx5
  unfold qp q_could at hK
  simp only [] at hK
  have loop : ∀ j : Nat, r = (j : Int) → (0 ≤ r ∧ r < S.1.1 5) → ∀ (n b : Nat) (p : Int) (v5 : Option Value) (ln : Nat → Int32) (dy asd lma lim rea : Int32), -1 ≤ p → p < n → p < S.1.1 4 → coF S.1 (mtR S.1 j) (S.1.2.1 5 j 5) (wq S.1 j) n p b = coF S.1 (mtR S.1 j) (S.1.2.1 5 j 5) (wq S.1 j) 12 (S.1.2.1 5 j 1) 0 →
      AW l 206 40 0 0 11 none Post 42 [some (.ref 0), some (.int (iI r)), some (.int (iI (wq S.1 j))), some (.int (iI (b : Int))), some (.int (iI p)), v5] [] (wMd now was kept isk ln sp ls ld tb rd (iI S.2.1.length) (iI (-1)) (iI (-1)) (iI (S.1.2.1 5 j 0)) (iI (S.1.2.1 5 j 2)) dy asd lma lim rea sts apr (iI S.2.2.2.1) spo wro num nuA stl spe wan fou) 0 0 := by
    intro j hj hc n
    subst hj
    rw [if_pos hc, Int.toNat_natCast] at hK
    have hr : j < S.1.1 5 := by omega
    have hc := hO.2.2.2.2.2.1 j hr
    have hw := whF_rng hO hr (S.1.2.1 5 j 5)
    have hwq : 1 ≤ wq S.1 j ∧ wq S.1 j ≤ 500000 := hw
    have hq := rq_ok hO hr
    induction n with
    | zero =>
      intro b p v5 ln dy asd lma lim rea p0 p1 p2 hv
      have hp : p = -1 := by omega
      rw [coF] at hv
      rw [← hv] at hK
      refine AW.go (bs := b_Mod_could) [42] 70 t_Mod_could ?_
      refine And.intro (fun h => ?_) (fun h => absurd ((zc_eq (b := -1) (by omega) (by omega) (by omega) (by omega)).mpr hp) h)
      exact hP1 _ _ (hK _ (isMd.mk hOS hMR))
    | succ n ih =>
      intro b p v5 ln dy asd lma lim rea p0 p1 p2 hv
      refine AW.go (bs := b_Mod_could) [42, 89] 70 t_Mod_could ?_
      refine And.intro (fun h => ?_) (fun h => ?_)
      · have h := (zc_eq (b := -1) (by omega) (by omega) (by omega) (by omega)).mp h
        rw [coF, if_neg (by omega)] at hv
        rw [← hv] at hK
        exact hP1 _ _ (hK _ (isMd.mk hOS hMR))
      have h := mt (zc_eq (a := p) (b := -1) (by omega) (by omega) (by omega) (by omega)).mpr h
      rw [coF, if_pos (by omega)] at hv
      obtain ⟨q, rfl⟩ : ∃ q : Nat, p = (q : Int) := ⟨p.toNat, by omega⟩
      rw [Int.toNat_natCast] at hv
      have hq4 : q < S.1.1 4 := by omega
      have h4 := (hO.2.2.2.2.1 q hq4).1
      have hup : -1 ≤ upM S.1 q ∧ upM S.1 q < q := by unfold upM mVal; split <;> omega
      have next : ∀ (b' : Nat) (v5 : Option Value) (ln : Nat → Int32) (dy asd lma lim rea : Int32), coF S.1 (mtR S.1 j) (S.1.2.1 5 j 5) (wq S.1 j) n (S.1.2.1 4 q 0) b' = coF S.1 (mtR S.1 j) (S.1.2.1 5 j 5) (wq S.1 j) 12 (S.1.2.1 5 j 1) 0 → AW l 206 40 0 0 11 none Post 89 [some (.ref 0), some (.int (iI (j : Int))), some (.int (iI (wq S.1 j))), some (.int (iI (b' : Int))), some (.int (iI (q : Int))), v5] [] (wMd now was kept isk ln sp ls ld tb rd (iI S.2.1.length) (iI (-1)) (iI (-1)) (iI (S.1.2.1 5 j 0)) (iI (S.1.2.1 5 j 2)) dy asd lma lim rea sts apr (iI S.2.2.2.1) spo wro num nuA stl spe wan fou) 0 0 := by
        intro b' v5 ln dy asd lma lim rea hv'
        refine AW.go (bs := b_Mod_could) [42] 70 t_Mod_could ?_
        refine ⟨_, v_mupper l, by decide, _, _, _, _, _, _, _, _, _, _, _, _, _, _, _, _, _, _, _, _, _, _, _, _, _, _, _, _, _, _, _, S.1, rfl, hN, hO, q, rfl, hq4, ?_⟩
        refine ih b' _ _ _ _ _ _ _ _ hup.1 (by omega) (by omega) ?_
        rw [← hv']
        unfold upM mVal
        by_cases e2 : S.1.2.1 4 q 0 = -2
        · rw [if_pos ⟨rfl, rfl, e2⟩, e2]
          cases n with
          | zero => rfl
          | succ n => rw [coF, coF, if_neg (by omega), if_neg (by omega)]
        · rw [if_neg (fun z => e2 z.2.2)]
      refine ⟨_, v_mof l, by decide, _, _, _, _, _, _, _, _, _, _, _, _, _, _, _, _, _, _, _, _, _, _, _, _, _, _, _, _, _, _, _, S.1, rfl, hN, hO, j, 5, rfl, hr, by omega, ?_⟩
      refine ⟨_, v_mof l, by decide, _, _, _, _, _, _, _, _, _, _, _, _, _, _, _, _, _, _, _, _, _, _, _, _, _, _, _, _, _, _, _, S.1, rfl, hN, hO, j, 3, rfl, hr, by omega, ?_⟩
      refine ⟨_, v_mdecider l, by decide, _, _, _, _, _, _, _, _, _, _, _, 0, 0, 0, 0, _, _, _, _, _, _, _, _, _, _, _, _, _, _, _, _, S.1, mtR S.1 j, q, S.1.2.1 5 j 5, _, rfl, rfl, rfl, hN, hO, mtR_ok hO hr, hq4, ⟨by omega, by omega⟩, fun ln' asd' lma' lim' rea' hres => ?_⟩
      cases hd : decF S.1 (mtR S.1 j) q (S.1.2.1 5 j 5) with
      | none =>
        rw [hd] at hv
        refine And.intro (fun _ => ?_) (fun h => absurd rfl h)
        exact next b _ _ _ _ _ _ _ hv
      | some z =>
        obtain ⟨x, L⟩ := z
        rw [hd] at hv
        simp only [] at hv
        obtain ⟨g1, g2, g3, g4, g5⟩ := decF_ok hO (mtR_ok hO hr) hq4 hd
        obtain ⟨q1, q2, q3⟩ := hres.1 x L hd
        subst q1
        have hlp := lastP_rng g5
        refine And.intro (fun h => ?_) (fun _ => ?_)
        · have := (zc_eq (a := lastP L) (b := -1) (by omega) (by omega) (by omega) (by omega)).mp h
          have : lastP L = -1 := this
          omega
        refine And.intro (fun h => ?_) (fun h => ?_)
        · rw [zc_lt (by omega) (by omega) (by omega) (by omega)] at h
          rw [if_neg (by omega)] at hv
          exact next b _ _ _ _ _ _ _ hv
        · rw [zc_lt (by omega) (by omega) (by omega) (by omega)] at h
          rw [if_pos (by omega)] at hv
          obtain ⟨a, ha⟩ : ∃ a : Nat, lastP L = (a : Int) := ⟨(lastP L).toNat, by omega⟩
          have eb : bitI (lastP L) = 2 ^ a := by unfold bitI; rw [ha, if_pos (by omega), Int.toNat_natCast]
          rw [eb] at hv
          show AW _ _ _ _ _ _ _ _ _ _ _ _ _ _
          rw [show decI (some (x, L)) = (a : Int) from ha, show z_nn 1 0 = iI 1 from rfl, zb_shl a (by omega), zb_or]
          exact next _ _ _ _ _ _ _ _ hv
  refine AW.go (bs := b_Mod_could) [42] 70 t_Mod_could ?_
  refine ⟨_, v_misRequest l, by decide, _, _, _, _, _, _, _, _, _, _, _, _, _, _, _, _, _, _, _, _, _, _, _, _, _, _, _, _, _, _, _, S.1, rfl, hN, hO, r, rfl, ⟨r1, r2⟩, ?_⟩
  refine And.symm (And.intro (fun h => ?_) (fun h => ?_))
  · rw [zc_bne, decide_eq_true_eq] at h
    rw [if_neg h] at hK
    exact hP1 _ _ (hK _ (isMd.mk hOS hMR))
  rw [zc_bne, decide_eq_true_eq] at h
  obtain ⟨j, rfl⟩ : ∃ j : Nat, r = (j : Int) := ⟨r.toNat, by omega⟩
  have hr : j < S.1.1 5 := by omega
  have hc := hO.2.2.2.2.2.1 j hr
  refine ⟨_, v_mwholeOf l, by decide, _, _, _, _, _, _, _, _, _, _, _, _, _, _, _, _, _, _, _, _, _, _, _, _, _, _, _, _, _, _, _, S.1, rfl, hN, hO, j, rfl, hr, ?_⟩
  refine ⟨_, v_mof l, by decide, _, _, _, _, _, _, _, _, _, _, _, _, _, _, _, _, _, _, _, _, _, _, _, _, _, _, _, _, _, _, _, S.1, rfl, hN, hO, j, 0, rfl, hr, by omega, ?_⟩
  refine ⟨_, v_mof l, by decide, _, _, _, _, _, _, _, _, _, _, _, _, _, _, _, _, _, _, _, _, _, _, _, _, _, _, _, _, _, _, _, S.1, rfl, hN, hO, j, 2, rfl, hr, by omega, ?_⟩
  refine ⟨_, v_masksFor l, by decide, _, _, _, _, _, _, _, _, _, _, _, _, _, _, _, _, _, _, _, _, _, _, _, _, _, _, _, _, _, _, _, _, _, rfl, rfl, ?_⟩
  refine ⟨_, v_mof l, by decide, _, _, _, _, _, _, _, _, _, _, _, _, _, _, _, _, _, _, _, _, _, _, _, _, _, _, _, _, _, _, _, S.1, rfl, hN, hO, j, 1, rfl, hr, by omega, ?_⟩
  exact loop j rfl (by omega) 12 0 _ _ _ _ _ _ _ _ (by omega) (by omega) (by omega) rfl
def sp_mrecalledMany : Sp := spN 2 (fun M _ _ _ _ _ as K => as = [.ref 0] ∧ K (some (.int (iI (cntF (recd M) (M.1 5) : Nat)))))
set_option maxRecDepth 20000 in
theorem v_mrecalledMany (l : Launch) : z_V l 209 sp_mrecalledMany := by
  refine z_V.ofP (by decide +kernel) ?_
  rintro as σ K Post ⟨now, was, kept, isk, ln, sp, ls, ld, tb, rd, und, gon, lef, ak, vn, dy, asd, lma, lim, rea, sts, apr, tz, spo, wro, num, nuA, stl, spe, wan, fou, M, rfl, hN, hO, rfl, hK⟩ hP1 hP0
  have hx5 := hO.mx 5 (by omega)
  have loop : ∀ (n i : Nat) (x1 x2 : Int32), n = M.1 5 - i → i ≤ M.1 5 → x1 = iI (cntF (recd M) i : Nat) → x2 = iI (i : Int) →
      AW l 209 2 0 0 11 none Post 4 [some (.ref 0), some (.int x1), some (.int x2)] [] (wMd now was kept isk ln sp ls ld tb rd und gon lef ak vn dy asd lma lim rea sts apr tz spo wro num nuA stl spe wan fou) 0 0 := by
    intro n
    induction n using Nat.strongRecOn with
    | ind n ih =>
      intro i x1 x2 hn hi e1 e2
      subst e1; subst e2
      refine AW.go (bs := b_Mod_recalledMany) [4] 60 t_Mod_recalledMany ?_
      refine ⟨_, v_mrequests l, by decide, _, _, _, _, _, _, _, _, _, _, _, _, _, _, _, _, _, _, _, _, _, _, _, _, _, _, _, _, _, _, _, M, rfl, hN, hO, rfl, ?_⟩
      refine And.intro (fun h => ?_) (fun h => ?_)
      · rw [zc_ge (by omega) (by omega) (by omega) (by omega)] at h
        have : i = M.1 5 := by omega
        subst this
        exact hP0 _ hK
      rw [zc_ge (by omega) (by omega) (by omega) (by omega)] at h
      refine ⟨_, v_misRecalled l, by decide, _, _, _, _, _, _, _, _, _, _, _, _, _, _, _, _, _, _, _, _, _, _, _, _, _, _, _, _, _, _, _, M, rfl, hN, hO, i, rfl, by omega, ?_⟩
      refine And.intro (fun h => ?_) (fun h => ?_)
      · rw [zc_beq] at h
        exact ih _ (by omega) (i + 1) _ _ rfl (by omega) (by rw [cntF, h, zn_i, iI_add]; first | rfl | (congr 1; done) | (congr 1; simp; done) | (congr 1; omega)) (zn_inc i)
      · rw [zc_beq, Bool.not_eq_false] at h
        exact ih _ (by omega) (i + 1) _ _ rfl (by omega) (by rw [cntF, h]; exact zn_inc _) (zn_inc i)
  refine AW.go (bs := b_Mod_recalledMany) [4] 60 t_Mod_recalledMany ?_
  exact loop _ 0 _ _ rfl (by omega) rfl rfl
def sp_mstuckMany : Sp := spMd 34 (fun S as K => as = [.ref 0] ∧ K (some (.int (iI (cntF (stk S.1) (S.1.1 5) : Nat)))) S)
set_option maxRecDepth 20000 in
theorem v_mstuckMany (l : Launch) : z_V l 210 sp_mstuckMany := by
  refine z_V.ofP (by decide +kernel) ?_
  rintro as σ K Post ⟨S, ⟨hOS, now, was, kept, isk, ln, sp, ls, ld, tb, rd, und, gon, lef, ak, vn, dy, asd, lma, lim, rea, sts, apr, tz, spo, wro, num, nuA, stl, spe, wan, fou, rfl, hMR⟩, rfl, hK⟩ hP1 hP0
  obtain ⟨hN, h2_, rfl, h4_, h5_, h6_, h7_, rfl, rfl, rfl, h11_⟩ := id hMR
  have hO := hOS.1
  have hx4 := hO.2.2.2.2.2.2.2.2.2 4 (by omega)
  rw [x_4] at hx4
  have hx5 := hO.2.2.2.2.2.2.2.2.2 5 (by omega)
  rw [x_5] at hx5
  have loop : ∀ (n i : Nat) (x1 x2 : Int32) (sp ls ln : Nat → Int32) (ak vn dy asd lma lim rea sts apr : Int32), n = S.1.1 5 - i → i ≤ S.1.1 5 → x1 = iI (cntF (stk S.1) i : Nat) → x2 = iI (i : Int) →
      AW l 210 34 0 0 11 none Post 4 [some (.ref 0), some (.int x1), some (.int x2)] [] (wMd now was kept isk ln sp ls ld tb rd (iI S.2.1.length) (iI (-1)) (iI (-1)) ak vn dy asd lma lim rea sts apr (iI S.2.2.2.1) spo wro num nuA stl spe wan fou) 0 0 := by
    intro n
    induction n using Nat.strongRecOn with
    | ind n ih =>
      intro i x1 x2 sp ls ln ak vn dy asd lma lim rea sts apr hn hi e1 e2
      subst e1; subst e2
      refine AW.go (bs := b_Mod_stuckMany) [4] 60 t_Mod_stuckMany ?_
      refine ⟨_, v_mrequests l, by decide, _, _, _, _, _, _, _, _, _, _, _, _, _, _, _, _, _, _, _, _, _, _, _, _, _, _, _, _, _, _, _, S.1, rfl, hN, hO, rfl, ?_⟩
      refine And.intro (fun h => ?_) (fun h => ?_)
      · rw [zc_ge (by omega) (by omega) (by omega) (by omega)] at h
        have : i = S.1.1 5 := by omega
        subst this
        exact hP1 _ _ (hK _ (isMd.mk hOS hMR))
      rw [zc_ge (by omega) (by omega) (by omega) (by omega)] at h
      have hr : i < S.1.1 5 := by omega
      refine ⟨_, v_misRecalled l, by decide, _, _, _, _, _, _, _, _, _, _, _, _, _, _, _, _, _, _, _, _, _, _, _, _, _, _, _, _, _, _, _, S.1, rfl, hN, hO, i, rfl, hr, ?_⟩
      refine And.symm (And.intro (fun h => ?_) (fun h => ?_))
      · rw [zc_beq, Bool.not_eq_false] at h
        exact ih _ (by omega) (i + 1) _ _ _ _ _ _ _ _ _ _ _ _ _ _ rfl (by omega) (by rw [cntF, stk, h]; rfl) (zn_inc i)
      rw [zc_beq] at h
      have hc := hO.2.2.2.2.2.1 i hr
      have hw := whF_rng hO hr (S.1.2.1 5 i 5)
      have hwq : 1 ≤ wq S.1 i ∧ wq S.1 i ≤ 500000 := hw
      have hq := rq_ok hO hr
      refine ⟨_, v_mroutes l, by decide, _, _, _, _, _, _, _, _, _, _, _, 0, 0, _, _, _, _, _, _, _, _, _, _, _, _, _, _, _, _, _, _, S.1, i, -1, -1, rfl, rfl, hN, hO, hr, ⟨by omega, by omega⟩, ⟨by omega, by omega⟩, fun sp ls ln ak vn dy asd lma lim rea sts apr hrt => ?_⟩
      have hrt0 : mRt (rq S.1 i) (wq S.1 i) sp ls sts apr := hrt
      have hne : rq S.1 i ≠ [] := routeF_ne (by omega) (by omega) (by omega)
      obtain ⟨hRR, rfl, rfl⟩ := hrt0
      refine And.intro (fun h2 => ?_) (fun h2 => ?_)
      · rw [zc_beq] at h2
        exact ih _ (by omega) (i + 1) _ _ _ _ _ _ _ _ _ _ _ _ _ _ rfl (by omega) (by rw [cntF, stk, h, apd, h2]; exact zn_inc _) (zn_inc i)
      · rw [zc_beq, Bool.not_eq_false] at h2
        exact ih _ (by omega) (i + 1) _ _ _ _ _ _ _ _ _ _ _ _ _ _ rfl (by omega) (by rw [cntF, stk, h, apd, h2, zn_i, iI_add]; first | rfl | (congr 1; done) | (congr 1; simp; done) | (congr 1; omega)) (zn_inc i)
  refine AW.go (bs := b_Mod_stuckMany) [4] 60 t_Mod_stuckMany ?_
  exact loop _ 0 _ _ _ _ _ _ _ _ _ _ _ _ _ _ rfl (by omega) rfl rfl
set_option maxRecDepth 20000 in
theorem v_mcount (l : Launch) : z_V l 211 (m1 40 f_count) := by
  refine z_V.ofP (by decide +kernel) ?_
  rintro as σ K Post ⟨S, hA, c, rfl, ⟨c1, c2⟩, hK⟩ hP1 hP0
  have hA0 := hA
  obtain ⟨hOS, now, was, kept, isk, ln, sp, ls, ld, tb, rd, und, gon, lef, ak, vn, dy, asd, lma, lim, rea, sts, apr, tz, spo, wro, num, nuA, stl, spe, wan, fou, rfl, hMR⟩ := hA
  obtain ⟨hN, h2_, rfl, h4_, h5_, h6_, h7_, rfl, rfl, rfl, h11_⟩ := id hMR
  have hO := hOS.1
  have hx4 := hO.2.2.2.2.2.2.2.2.2 4 (by omega)
  rw [x_4] at hx4
  have hx5 := hO.2.2.2.2.2.2.2.2.2 5 (by omega)
  rw [x_5] at hx5
  unfold f_count at hK
  simp only [] at hK
  have ex : ∀ x : Int, 0 ≤ x → x ≤ 20 → iI c = Int32.ofInt x → c = x := fun x h0 h1 e => (iI_inj c1 c2 (by omega) (by omega)).mp e
  have t77 : ∀ d : Nat, d < 4 → c = (d : Int) + 1 → AW l 211 40 0 0 11 none Post 77 [some (.ref 0), some (.int (iI c))] [] (wMd now was kept isk ln sp ls ld tb rd (iI S.2.1.length) (iI (-1)) (iI (-1)) ak vn dy asd lma lim rea sts apr (iI S.2.2.2.1) spo wro num nuA stl spe wan fou) 0 0 := by
    intro d hd hc
    rw [if_neg (by omega), if_pos (by omega), show c.toNat - 1 = d by omega] at hK
    refine AW.go (bs := b_Mod_count) [] 60 t_Mod_count ?_
    show ∃ sp : Sp, _
    rw [zn_i 1, iI_sub, show c - ((1 : Nat) : Int) = (d : Int) by omega]
    refine ⟨_, v_mmany l, by decide, _, _, _, _, _, _, _, _, _, _, _, _, _, _, _, _, _, _, _, _, _, _, _, _, _, _, _, _, _, _, _, S.1, rfl, hN, hO, d, rfl, hd, ?_⟩
    exact hP1 _ _ (hK _ (isMd.mk hOS hMR))
  have t85 : ∀ d : Nat, d < 3 → c = (d : Int) + 5 → AW l 211 40 0 0 11 none Post 85 [some (.ref 0), some (.int (iI c))] [] (wMd now was kept isk ln sp ls ld tb rd (iI S.2.1.length) (iI (-1)) (iI (-1)) ak vn dy asd lma lim rea sts apr (iI S.2.2.2.1) spo wro num nuA stl spe wan fou) 0 0 := by
    intro d hd hc
    rw [if_neg (by omega), if_neg (by omega), if_pos (by omega), show c.toNat - 5 = d by omega] at hK
    refine AW.go (bs := b_Mod_count) [] 60 t_Mod_count ?_
    show _ ∧ _
    rw [show c = ((5 + d : Nat) : Int) by omega]
    refine And.intro (zN_in (by omega) (by omega)) ?_
    show Post _ _
    rw [zN_cl (by omega), hN.2.2 d hd]
    exact hP1 _ _ (hK _ (isMd.mk hOS hMR))
  refine AW.go (bs := b_Mod_count) [77, 85] 60 t_Mod_count ?_
  refine And.intro (fun h => ?_) ⟨fun h => ?_, fun h => ?_, fun h => ?_, fun h => ?_, fun h => ?_, fun h => ?_, fun h => ?_, fun h => ?_, fun h => ?_, fun h => ?_, fun h => ?_, fun h => ?_, fun h => ?_, fun h => ?_, trivial⟩
  · rw [iI_toInt c1 c2] at h
    rw [if_neg (by omega), if_neg (by omega), if_neg (by omega), if_neg (by omega), if_neg (by omega), if_neg (by omega), if_neg (by omega), if_neg (by omega), if_neg (by omega)] at hK
    exact hP1 _ _ (hK _ (isMd.mk hOS hMR))
  · have h := ex 0 (by omega) (by omega) h
    rw [if_pos h] at hK
    refine ⟨_, v_mposts l, by decide, _, _, _, _, _, _, _, _, _, _, _, _, _, _, _, _, _, _, _, _, _, _, _, _, _, _, _, _, _, _, _, S.1, rfl, hN, hO, rfl, ?_⟩
    exact hP1 _ _ (hK _ (isMd.mk hOS hMR))
  · have h := ex 1 (by omega) (by omega) h; exact t77 0 (by omega) (by omega)
  · have h := ex 2 (by omega) (by omega) h; exact t77 1 (by omega) (by omega)
  · have h := ex 3 (by omega) (by omega) h; exact t77 2 (by omega) (by omega)
  · have h := ex 4 (by omega) (by omega) h; exact t77 3 (by omega) (by omega)
  · have h := ex 5 (by omega) (by omega) h; exact t85 0 (by omega) (by omega)
  · have h := ex 6 (by omega) (by omega) h; exact t85 1 (by omega) (by omega)
  · have h := ex 7 (by omega) (by omega) h; exact t85 2 (by omega) (by omega)
  · have h := ex 8 (by omega) (by omega) h
    rw [if_neg (by omega), if_neg (by omega), if_neg (by omega), if_pos h] at hK
    refine ⟨_, v_mrequests l, by decide, _, _, _, _, _, _, _, _, _, _, _, _, _, _, _, _, _, _, _, _, _, _, _, _, _, _, _, _, _, _, _, S.1, rfl, hN, hO, rfl, ?_⟩
    exact hP1 _ _ (hK _ (isMd.mk hOS hMR))
  · have h := ex 9 (by omega) (by omega) h
    rw [if_neg (by omega), if_neg (by omega), if_neg (by omega), if_neg (by omega), if_pos h] at hK
    refine ⟨_, v_mrecalledMany l, by decide, _, _, _, _, _, _, _, _, _, _, _, _, _, _, _, _, _, _, _, _, _, _, _, _, _, _, _, _, _, _, _, S.1, rfl, hN, hO, rfl, ?_⟩
    exact hP1 _ _ (hK _ (isMd.mk hOS hMR))
  · have h := ex 10 (by omega) (by omega) h
    rw [if_neg (by omega), if_neg (by omega), if_neg (by omega), if_neg (by omega), if_neg (by omega), if_pos h] at hK
    refine ⟨_, v_mstuckMany l, by decide, S, hA0, rfl, fun σ' hA' => ?_⟩
    clear hA0 hMR hOS
    obtain ⟨hOS, now, was, kept, isk, ln, sp, ls, ld, tb, rd, und, gon, lef, ak, vn, dy, asd, lma, lim, rea, sts, apr, tz, spo, wro, num, nuA, stl, spe, wan, fou, rfl, hMR⟩ := hA'
    exact hP1 _ _ (hK _ (isMd.mk hOS hMR))
  · have h := ex 11 (by omega) (by omega) h
    rw [if_neg (by omega), if_neg (by omega), if_neg (by omega), if_neg (by omega), if_neg (by omega), if_neg (by omega), if_pos h] at hK
    exact hP1 _ _ (hK _ (isMd.mk hOS hMR))
  · have h := ex 12 (by omega) (by omega) h
    rw [if_neg (by omega), if_neg (by omega), if_neg (by omega), if_neg (by omega), if_neg (by omega), if_neg (by omega), if_neg (by omega), if_pos h] at hK
    exact hP1 _ _ (hK _ (isMd.mk hOS hMR))
  · have h := ex 13 (by omega) (by omega) h
    rw [if_neg (by omega), if_neg (by omega), if_neg (by omega), if_neg (by omega), if_neg (by omega), if_neg (by omega), if_neg (by omega), if_neg (by omega), if_pos h] at hK
    refine And.intro (zn_in (by omega) (by omega)) ?_
    show _ ∧ _
    rw [zn_cl (by omega), h6_]
    refine And.intro (fun g => ?_) (fun g => ?_)
    · rw [zc_beq] at g
      refine And.intro (zn_in (by omega) (by omega)) ?_
      show _ ∧ _
      rw [zn_cl (by omega), h7_]
      refine And.intro (fun g2 => ?_) (fun g2 => ?_)
      · rw [zc_beq] at g2
        rw [kmask, g, g2] at hK
        exact hP1 _ _ (hK _ (isMd.mk hOS hMR))
      · rw [zc_beq, Bool.not_eq_false] at g2
        rw [kmask, g, g2] at hK
        exact hP1 _ _ (hK _ (isMd.mk hOS hMR))
    · rw [zc_beq, Bool.not_eq_false] at g
      refine And.intro (zn_in (by omega) (by omega)) ?_
      show _ ∧ _
      rw [zn_cl (by omega), h7_]
      refine And.intro (fun g2 => ?_) (fun g2 => ?_)
      · rw [zc_beq] at g2
        rw [kmask, g, g2] at hK
        exact hP1 _ _ (hK _ (isMd.mk hOS hMR))
      · rw [zc_beq, Bool.not_eq_false] at g2
        rw [kmask, g, g2] at hK
        exact hP1 _ _ (hK _ (isMd.mk hOS hMR))
