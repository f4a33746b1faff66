/-! all requests -/
def recd (M : Od) (r : Nat) : Bool := decide (M.2.1 5 r 6 ≠ -2)
noncomputable def apd (M : Od) (r : Nat) : Bool := decide (lC (rq M r) (wq M r) 4 = 0)
def sp_countRecalled : Sp := spA 3 (fun S as K => as = [.ref 0] ∧ K (some (.int (iI (cntF (recd S.1) (S.1.1 5) : Nat)))) S)
set_option maxRecDepth 20000 in
theorem v_countRecalled (l : Launch) : z_V l 137 sp_countRecalled := by
  refine z_V.ofP (by decide +kernel) ?_
  rintro as σ K Post ⟨S, ⟨hOS, f, s, t, f1, s1, t1, f2, s2, t2, tb, f3, s3, t3, nu, ln, sp, ls, g, ta, pl, pf, ps, pt, fi, hz, ks, tz, ra, rf, rt, la, lb, lc, mp, mv, mk, mo, my, mw, ma, ml, ak, dy, br, ad, dp, lm, rs, len, rfl, hAR⟩, rfl, hK⟩ hP1 hP0
  obtain ⟨hR, ⟨fq, rfl, hPR⟩, rfl, rfl, a5, a6, rfl, a8⟩ := id hAR
  have hO := hOS.1
  have hx4 := hO.2.2.2.2.2.2.2.2.2 4 (by omega)
  rw [x_4] at hx4
  have hx5 := hO.2.2.2.2.2.2.2.2.2 5 (by omega)
  rw [x_5] at hx5
  have hs := hR.size 5 (by omega)
  have loop : ∀ (n i : Nat) (x1 x2 : Int32), n = S.1.1 5 - i → i ≤ S.1.1 5 → x1 = iI (cntF (recd S.1) i : Nat) → x2 = iI (i : Int) →
      AW l 137 3 0 0 75 none Post 4 [some (.ref 0), some (.int x1), some (.int x2)] [] (wA f s t f1 s1 t1 f2 s2 t2 tb f3 s3 t3 nu ln sp ls g ta pl pf ps pt (iI fq) (iI S.2.1.length) (iI (kmask S.2.2.1 : Nat)) (iI S.2.2.2.1) ra rf rt la lb lc mp mv mk mo my mw ma ml ak dy br ad dp lm rs len) 0 0 := by
    intro n
    induction n using Nat.strongRecOn with
    | ind n ih =>
      intro i x1 x2 hn hi e1 e2
      subst e1; subst e2
      refine AW.go (bs := b_Appr_countRecalled) [4] 60 t_Appr_countRecalled ?_
      refine And.intro (zn_in (by omega) (by omega)) ?_
      refine And.intro (fun h => ?_) (fun h => ?_)
      · rw [zn_cl (by omega), hs, zc_ge (by omega) (by omega) (by omega) (by omega)] at h
        have : i = S.1.1 5 := by omega
        subst this
        exact hP1 _ _ (hK _ (isA.mk hOS hAR))
      rw [zn_cl (by omega), hs, zc_ge (by omega) (by omega) (by omega) (by omega)] at h
      refine ⟨_, v_isRecalled l, by decide, f, s, t, rfl, S.1, i, rfl, hR, hO, by omega, ?_⟩
      refine And.intro (fun h => ?_) (fun h => ?_)
      · rw [zc_beq] at h
        exact ih _ (by omega) (i + 1) _ _ rfl (by omega) (by rw [cntF, recd, h]; rfl) (zn_inc i)
      · rw [zc_beq, Bool.not_eq_false] at h
        exact ih _ (by omega) (i + 1) _ _ rfl (by omega) (by rw [cntF, recd, h]; exact zn_inc _) (zn_inc i)
  refine AW.go (bs := b_Appr_countRecalled) [4] 60 t_Appr_countRecalled ?_
  exact loop _ 0 _ _ rfl (by omega) rfl rfl
noncomputable def stk (M : Od) (r : Nat) : Bool := !recd M r && !apd M r
def sp_countStuck : Sp := spA 34 (fun S as K => as = [.ref 0] ∧ K (some (.int (iI (cntF (stk S.1) (S.1.1 5) : Nat)))) S)
set_option maxRecDepth 20000 in
theorem v_countStuck (l : Launch) : z_V l 138 sp_countStuck := by
  refine z_V.ofP (by decide +kernel) ?_
  rintro as σ K Post ⟨S, ⟨hOS, f, s, t, f1, s1, t1, f2, s2, t2, tb, f3, s3, t3, nu, ln, sp, ls, g, ta, pl, pf, ps, pt, fi, hz, ks, tz, ra, rf, rt, la, lb, lc, mp, mv, mk, mo, my, mw, ma, ml, ak, dy, br, ad, dp, lm, rs, len, rfl, hAR⟩, rfl, hK⟩ hP1 hP0
  obtain ⟨hR, ⟨fq, rfl, hPR⟩, rfl, rfl, a5, a6, rfl, a8⟩ := id hAR
  have hO := hOS.1
  have hx4 := hO.2.2.2.2.2.2.2.2.2 4 (by omega)
  rw [x_4] at hx4
  have hx5 := hO.2.2.2.2.2.2.2.2.2 5 (by omega)
  rw [x_5] at hx5
  have hs := hR.size 5 (by omega)
  have loop : ∀ (n i : Nat) (x1 x2 : Int32) (sp ls ln : Nat → Int32) (mp mv mk mo my mw ma ml ak dy br ad dp lm rs len : Int32), n = S.1.1 5 - i → i ≤ S.1.1 5 → x1 = iI (cntF (stk S.1) i : Nat) → x2 = iI (i : Int) →
      AW l 138 34 0 0 75 none Post 4 [some (.ref 0), some (.int x1), some (.int x2)] [] (wA f s t f1 s1 t1 f2 s2 t2 tb f3 s3 t3 nu ln sp ls g ta pl pf ps pt (iI fq) (iI S.2.1.length) (iI (kmask S.2.2.1 : Nat)) (iI S.2.2.2.1) ra rf rt la lb lc mp mv mk mo my mw ma ml ak dy br ad dp lm rs len) 0 0 := by
    intro n
    induction n using Nat.strongRecOn with
    | ind n ih =>
      intro i x1 x2 sp ls ln mp mv mk mo my mw ma ml ak dy br ad dp lm rs len hn hi e1 e2
      subst e1; subst e2
      refine AW.go (bs := b_Appr_countStuck) [4] 60 t_Appr_countStuck ?_
      refine And.intro (zn_in (by omega) (by omega)) ?_
      refine And.intro (fun h => ?_) (fun h => ?_)
      · rw [zn_cl (by omega), hs, zc_ge (by omega) (by omega) (by omega) (by omega)] at h
        have : i = S.1.1 5 := by omega
        subst this
        exact hP1 _ _ (hK _ (isA.mk hOS hAR))
      rw [zn_cl (by omega), hs, zc_ge (by omega) (by omega) (by omega) (by omega)] at h
      have hr : i < S.1.1 5 := by omega
      refine ⟨_, v_isRecalled l, by decide, f, s, t, rfl, S.1, i, rfl, hR, hO, hr, ?_⟩
      refine And.intro (fun h => ?_) (fun h => ?_)
      · rw [zc_bne] at h
        exact ih _ (by omega) (i + 1) _ _ _ _ _ _ _ _ _ _ _ _ _ _ _ _ _ _ _ _ _ rfl (by omega) (by rw [cntF, stk, recd, h]; rfl) (zn_inc i)
      rw [zc_bne, Bool.not_eq_true] at h
      have hc := hO.2.2.2.2.2.1 i hr
      have hw := whF_rng hO hr (S.1.2.1 5 i 5)
      have hwq : 1 ≤ wq S.1 i ∧ wq S.1 i ≤ 500000 := hw
      have hq := rq_ok hO hr
      show ∃ sp : Sp, _
      refine callA (fun _ => rfl) (v_matterOf l) (by decide) rfl ⟨_, _, _, _, _, _, _, _, _, _, _, _, _, _, _, _, _, _, _, _, _, _, _, _, _, _, _, _, _, _, _, _, _, _, _, _, _, _, _, _, _, _, _, _, _, _, _, _, _, S.1, i, rfl, rfl, hR, hO, hr, kkR isW isW ?_⟩
      refine ⟨_, v_follow l, by decide, _, _, _, f, s, t, S.1, mtR S.1 i, S.1.2.1 5 i 1, S.1.2.1 5 i 5, wq S.1 i, _, _, _, _, _, _, _, _, rfl, rfl, hR, hO, mtR_ok hO hr, ⟨by omega, by omega⟩, by omega, by omega, ⟨by omega, by omega⟩, fun sp' ls' ln' ak' dy' br' ad' dp' lm' rs' hRR => ?_⟩
      refine ⟨_, v_isApproved l, by decide, _, _, _, _, _, _, _, _, _, _, _, _, _, wq S.1 i, rq S.1 i, rfl, hRR, hq.2, hq.1, rfl, ?_⟩
      refine And.intro (fun h2 => ?_) (fun h2 => ?_)
      · rw [zc_beq] at h2
        exact ih _ (by omega) (i + 1) _ _ _ _ _ _ _ _ _ _ _ _ _ _ _ _ _ _ _ _ _ rfl (by omega) (by rw [cntF, stk, recd, h, apd, h2]; exact zn_inc _) (zn_inc i)
      · rw [zc_beq, Bool.not_eq_false] at h2
        exact ih _ (by omega) (i + 1) _ _ _ _ _ _ _ _ _ _ _ _ _ _ _ _ _ _ _ _ _ rfl (by omega) (by rw [cntF, stk, recd, h, apd, h2, zn_i, iI_add]; first | rfl | (congr 1; done) | (congr 1; simp; done) | (congr 1; omega)) (zn_inc i)
  refine AW.go (bs := b_Appr_countStuck) [4] 60 t_Appr_countStuck ?_
  exact loop _ 0 _ _ _ _ _ _ _ _ _ _ _ _ _ _ _ _ _ _ _ _ _ rfl (by omega) rfl rfl
noncomputable def f_count (S : St) (c : Int) : Int × St := (if c = 0 then (S.1.1 4 : Int) else if 1 ≤ c ∧ c ≤ 4 then (S.1.1 (c.toNat - 1) : Int) else if 5 ≤ c ∧ c ≤ 7 then (S.1.2.2 (c.toNat - 5) : Int) else if c = 8 then (S.1.1 5 : Int) else if c = 9 then (cntF (recd S.1) (S.1.1 5) : Int) else if c = 10 then (cntF (stk S.1) (S.1.1 5) : Int) else if c = 11 then (S.2.1.length : Int) else if c = 12 then (S.2.2.2.1 : Int) else if c = 13 then (kmask S.2.2.1 : Int) else -1, S)
set_option maxRecDepth 20000 in
theorem v_count (l : Launch) : z_V l 120 (sp1 40 f_count) := by
  refine z_V.ofP (by decide +kernel) ?_
  rintro as σ K Post ⟨S, hA, c, rfl, ⟨c1, c2⟩, hK⟩ hP1 hP0
  have hA0 := hA
  obtain ⟨hOS, f, s, t, f1, s1, t1, f2, s2, t2, tb, f3, s3, t3, nu, ln, sp, ls, g, ta, pl, pf, ps, pt, fi, hz, ks, tz, ra, rf, rt, la, lb, lc, mp, mv, mk, mo, my, mw, ma, ml, ak, dy, br, ad, dp, lm, rs, len, rfl, hAR⟩ := hA
  obtain ⟨hR, ⟨fq, rfl, hPR⟩, rfl, rfl, a5, a6, rfl, a8⟩ := id hAR
  have hO := hOS.1
  have hx4 := hO.2.2.2.2.2.2.2.2.2 4 (by omega)
  rw [x_4] at hx4
  have hx5 := hO.2.2.2.2.2.2.2.2.2 5 (by omega)
  rw [x_5] at hx5
  unfold f_count at hK
  simp only [] at hK
  refine AW.go (bs := b_Appr_count) [] 60 t_Appr_count ?_
  refine And.intro (fun h => ?_) ?_
  · rw [iI_toInt c1 c2] at h
    rw [if_neg (by omega), if_neg (by omega), if_neg (by omega), if_neg (by omega), if_neg (by omega), if_neg (by omega), if_neg (by omega), if_neg (by omega), if_neg (by omega)] at hK
    exact hP1 _ _ (hK _ (isA.mk hOS hAR))
  have ex : ∀ x : Int, 0 ≤ x → x ≤ 20 → iI c = Int32.ofInt x → c = x := fun x h0 h1 e => (iI_inj c1 c2 (by omega) (by omega)).mp e
  refine ⟨fun h => ?_, fun h => ?_, fun h => ?_, fun h => ?_, fun h => ?_, fun h => ?_, fun h => ?_, fun h => ?_, fun h => ?_, fun h => ?_, fun h => ?_, fun h => ?_, fun h => ?_, fun h => ?_, trivial⟩
  · have h := ex 0 (by omega) (by omega) h
    subst h
    refine And.intro (zn_in (by omega) (by omega)) ?_
    show Post _ _
    rw [zn_cl (by omega), hR.size 4 (by omega)]
    exact hP1 _ _ (hK _ (isA.mk hOS hAR))
  · have h := ex 1 (by omega) (by omega) h
    subst h
    refine And.intro (zn_in (by omega) (by omega)) ?_
    show Post _ _
    rw [zn_cl (by omega), hR.size 0 (by omega)]
    exact hP1 _ _ (hK _ (isA.mk hOS hAR))
  · have h := ex 2 (by omega) (by omega) h
    subst h
    refine And.intro (zn_in (by omega) (by omega)) ?_
    show Post _ _
    rw [zn_cl (by omega), hR.size 1 (by omega)]
    exact hP1 _ _ (hK _ (isA.mk hOS hAR))
  · have h := ex 3 (by omega) (by omega) h
    subst h
    refine And.intro (zn_in (by omega) (by omega)) ?_
    show Post _ _
    rw [zn_cl (by omega), hR.size 2 (by omega)]
    exact hP1 _ _ (hK _ (isA.mk hOS hAR))
  · have h := ex 4 (by omega) (by omega) h
    subst h
    refine And.intro (zn_in (by omega) (by omega)) ?_
    show Post _ _
    rw [zn_cl (by omega), hR.size 3 (by omega)]
    exact hP1 _ _ (hK _ (isA.mk hOS hAR))
  · have h := ex 5 (by omega) (by omega) h
    subst h
    refine And.intro (zn_in (by omega) (by omega)) ?_
    show Post _ _
    rw [zn_cl (by omega), hR.2.2 0 (by omega)]
    exact hP1 _ _ (hK _ (isA.mk hOS hAR))
  · have h := ex 6 (by omega) (by omega) h
    subst h
    refine And.intro (zn_in (by omega) (by omega)) ?_
    show Post _ _
    rw [zn_cl (by omega), hR.2.2 1 (by omega)]
    exact hP1 _ _ (hK _ (isA.mk hOS hAR))
  · have h := ex 7 (by omega) (by omega) h
    subst h
    refine And.intro (zn_in (by omega) (by omega)) ?_
    show Post _ _
    rw [zn_cl (by omega), hR.2.2 2 (by omega)]
    exact hP1 _ _ (hK _ (isA.mk hOS hAR))
  · have h := ex 8 (by omega) (by omega) h
    subst h
    refine And.intro (zn_in (by omega) (by omega)) ?_
    show Post _ _
    rw [zn_cl (by omega), hR.size 5 (by omega)]
    exact hP1 _ _ (hK _ (isA.mk hOS hAR))
  · have h := ex 9 (by omega) (by omega) h
    subst h
    show ∃ sp : Sp, _
    refine callA (fun _ => rfl) (v_countRecalled l) (by decide) rfl ⟨S, hA0, rfl, fun σ' hA' => kkA isW hA'.w ?_⟩
    clear hA0 hAR hOS hR hPR a5 a6 a8
    obtain ⟨hOS, f, s, t, f1, s1, t1, f2, s2, t2, tb, f3, s3, t3, nu, ln, sp, ls, g, ta, pl, pf, ps, pt, fi, hz, ks, tz, ra, rf, rt, la, lb, lc, mp, mv, mk, mo, my, mw, ma, ml, ak, dy, br, ad, dp, lm, rs, len, rfl, hAR⟩ := hA'
    exact hP1 _ _ (hK _ (isA.mk hOS hAR))
  · have h := ex 10 (by omega) (by omega) h
    subst h
    show ∃ sp : Sp, _
    refine callA (fun _ => rfl) (v_countStuck l) (by decide) rfl ⟨S, hA0, rfl, fun σ' hA' => kkA isW hA'.w ?_⟩
    clear hA0 hAR hOS hR hPR a5 a6 a8
    obtain ⟨hOS, f, s, t, f1, s1, t1, f2, s2, t2, tb, f3, s3, t3, nu, ln, sp, ls, g, ta, pl, pf, ps, pt, fi, hz, ks, tz, ra, rf, rt, la, lb, lc, mp, mv, mk, mo, my, mw, ma, ml, ak, dy, br, ad, dp, lm, rs, len, rfl, hAR⟩ := hA'
    exact hP1 _ _ (hK _ (isA.mk hOS hAR))
  · have h := ex 11 (by omega) (by omega) h
    subst h
    exact hP1 _ _ (hK _ (isA.mk hOS hAR))
  · have h := ex 12 (by omega) (by omega) h
    subst h
    exact hP1 _ _ (hK _ (isA.mk hOS hAR))
  · have h := ex 13 (by omega) (by omega) h
    subst h
    exact hP1 _ _ (hK _ (isA.mk hOS hAR))
