noncomputable def rqX (M : Od) (r : Nat) : List SE := routeF M (mtR M r) 10000 12 (M.2.1 5 r 1) (M.2.1 5 r 5)
theorem rqX_ok {M : Od} (hO : OKM M) {r : Nat} (hr : r < M.1 5) : (∀ e ∈ rqX M r, rOK e) ∧ (rqX M r).length ≤ 12 := routeF_ok hO (mtR_ok hO hr) _ 12 _ _ (by have := hO.2.2.2.2.2.1 r hr; omega)
noncomputable def q_split (M : Od) (r : Int) : Int := if 0 ≤ r ∧ r < M.1 5 then (if cvF 10000 (M.2.1 5 r.toNat 4) (rqX M r.toNat) 0 ≠ -1 ∧ cvF 10000 (wq M r.toNat) (rqX M r.toNat) 0 ≠ cvF 10000 (M.2.1 5 r.toNat 4) (rqX M r.toNat) 0 then 1 else 0) else -1
theorem cvF_rng (w x : Int) : ∀ (R : List SE) (k : Nat), -1 ≤ cvF w x R k ∧ cvF w x R k ≤ k + R.length
  | [], k => by simp [cvF]
  | e :: R, k => by
    have := cvF_rng w x R (k + 1)
    unfold cvF
    split
    · simp; omega
    · simp; omega
set_option maxRecDepth 20000 in
theorem v_split (l : Launch) : z_V l 104 (sp1 40 (qp q_split)) := by
  refine z_V.ofP (by decide +kernel) ?_
  rintro as σ K Post ⟨S, ⟨hOS, f, s, t, f1, s1, t1, f2, s2, t2, tb, f3, s3, t3, nu, ln, sp, ls, g, ta, pl, pf, ps, pt, fi, hz, ks, tz, ra, rf, rt, la, lb, lc, mp, mv, mk, mo, my, mw, ma, ml, ak, dy, br, ad, dp, lm, rs, len, rfl, hAR⟩, r, rfl, ⟨r1, r2⟩, hK⟩ hP1 hP0
  obtain ⟨hR, ⟨fq, rfl, hPR⟩, rfl, rfl, a5, a6, rfl, a8⟩ := id hAR
  have hO := hOS.1
  have hx4 := hO.2.2.2.2.2.2.2.2.2 4 (by omega)
  rw [x_4] at hx4
  have hx5 := hO.2.2.2.2.2.2.2.2.2 5 (by omega)
  rw [x_5] at hx5
  unfold qp q_split at hK
  simp only [] at hK
  refine AW.go (bs := b_Appr_split) [] 60 t_Appr_split ?_
  refine ⟨_, v_has l, by decide, f, s, t, rfl, S.1, 5, r, rfl, hR, by omega, ⟨r1, r2⟩, ?_⟩
  refine And.symm (And.intro (fun h => ?_) (fun h => ?_))
  · rw [zc_bne, decide_eq_true_eq] at h
    rw [if_neg h] at hK
    exact hP1 _ _ (hK _ (isA.mk hOS hAR))
  rw [zc_bne, decide_eq_true_eq] at h
  rw [if_pos h] at hK
  obtain ⟨j, rfl⟩ : ∃ j : Nat, r = (j : Int) := ⟨r.toNat, by omega⟩
  rw [Int.toNat_natCast] at hK
  have hr : j < S.1.1 5 := by omega
  have hc := hO.2.2.2.2.2.1 j hr
  have hw := whF_rng hO hr (S.1.2.1 5 j 5)
  have hwq : 1 ≤ wq S.1 j ∧ wq S.1 j ≤ 500000 := hw
  have hq := rq_ok hO hr
  have hx := rqX_ok hO hr
  refine ⟨_, v_cell l, by decide, f, s, t, rfl, S.1, 5, j, 5, rfl, hR, by omega, hr, by decide, ?_⟩
  show ∃ sp : Sp, _
  refine callA (fun _ => rfl) (v_wholeOn l) (by decide) rfl ⟨_, _, _, _, _, _, _, _, _, _, _, _, _, _, _, _, _, _, _, _, _, _, _, _, _, _, _, _, _, _, _, _, _, _, _, _, _, _, _, _, _, _, _, _, _, _, _, _, _, S.1, j, S.1.2.1 5 j 5, rfl, rfl, hR, hO, hr, by omega, by omega, ?_⟩
  show ∃ sp : Sp, _
  refine callA (fun _ => rfl) (v_matterOf l) (by decide) rfl ⟨_, _, _, _, _, _, _, _, _, _, _, _, _, _, _, _, _, _, _, _, _, _, _, _, _, _, _, _, _, _, _, _, _, _, _, _, _, _, _, _, _, _, _, _, _, _, _, _, _, S.1, j, rfl, rfl, hR, hO, hr, kkR isW isW ?_⟩
  refine ⟨_, v_climb l, by decide, _, _, _, f, s, t, S.1, mtR S.1 j, S.1.2.1 5 j 1, S.1.2.1 5 j 5, _, _, _, _, _, _, _, _, _, rfl, rfl, hR, hO, mtR_ok hO hr, ⟨by omega, by omega⟩, by omega, by omega, fun sp' ls' ln' ak' dy' br' ad' dp' lm' rs' hRR => ?_⟩
  refine ⟨_, v_cell l, by decide, f, s, t, rfl, S.1, 5, j, 4, rfl, hR, by omega, hr, by decide, ?_⟩
  refine ⟨_, v_firstCovering l, by decide, _, _, _, _, _, _, _, _, _, _, _, _, _, 10000, rqX S.1 j, rfl, hRR, hx.2, S.1.2.1 5 j 4, hx.1, rfl, ⟨by omega, by omega⟩, ?_⟩
  have c1 := cvF_rng 10000 (S.1.2.1 5 j 4) (rqX S.1 j) 0
  have c2 := cvF_rng 10000 (wq S.1 j) (rqX S.1 j) 0
  have hl := hx.2
  refine And.intro (fun h => ?_) (fun h => ?_)
  · have h := (zc_eq (b := -1) (by omega) (by omega) (by omega) (by omega)).mp h
    rw [if_neg (fun q => q.1 h)] at hK
    exact hP1 _ _ (hK _ (isA.mk hOS hAR))
  have h := mt (zc_eq (b := -1) (by omega) (by omega) (by omega) (by omega)).mpr h
  refine ⟨_, v_firstCovering l, by decide, _, _, _, _, _, _, _, _, _, _, _, _, _, 10000, rqX S.1 j, rfl, hRR, hx.2, wq S.1 j, hx.1, rfl, ⟨by omega, by omega⟩, ?_⟩
  refine And.intro (fun h2 => ?_) (fun h2 => ?_)
  · rw [zc_eq (by omega) (by omega) (by omega) (by omega)] at h2
    rw [if_neg (fun q => q.2 h2)] at hK
    exact hP1 _ _ (hK _ (isA.mk hOS hAR))
  · rw [zc_eq (by omega) (by omega) (by omega) (by omega)] at h2
    rw [if_pos ⟨h, h2⟩] at hK
    exact hP1 _ _ (hK _ (isA.mk hOS hAR))
def mtA (M : Od) (r : Nat) (p : Int) : Mt := (M.2.1 5 r 0, M.2.1 5 r 2, M.2.1 5 r 3, p, -1)
def mtL (M : Od) (r : Nat) (k : Int) : Mt := (M.2.1 5 r 0, M.2.1 5 r 2, M.2.1 5 r 3, -1, k)
theorem mtA_ok {M : Od} (hO : OKM M) {r : Nat} (hr : r < M.1 5) {p : Int} (hp : ir p) : mOK (mtA M r p) := by
  obtain ⟨m1, m2, m3, m4, m5, m6⟩ := mtR_ok hO hr
  exact ⟨m1, m2, m3, m4, hp, ⟨by show -2147483648 ≤ (-1 : Int); omega, by show (-1 : Int) ≤ 2147483647; omega⟩⟩
theorem mtL_ok {M : Od} (hO : OKM M) {r : Nat} (hr : r < M.1 5) {p : Int} (hp : ir p) : mOK (mtL M r p) := by
  obtain ⟨m1, m2, m3, m4, m5, m6⟩ := mtR_ok hO hr
  exact ⟨m1, m2, m3, m4, ⟨by show -2147483648 ≤ (-1 : Int); omega, by show (-1 : Int) ≤ 2147483647; omega⟩, hp⟩
noncomputable def rqA (M : Od) (r : Nat) (p : Int) : List SE := routeF M (mtA M r p) (wq M r) 12 (M.2.1 5 r 1) (M.2.1 5 r 5)
noncomputable def rqL (M : Od) (r : Nat) (k : Int) : List SE := routeF M (mtL M r k) (wq M r) 12 (M.2.1 5 r 1) (M.2.1 5 r 5)
noncomputable def q_without (M : Od) (r p c : Int) : Int := if 0 ≤ r ∧ r < M.1 5 ∧ 0 ≤ p ∧ p ≤ 15 ∧ 0 ≤ c ∧ c ≤ 2 then outF (rqA M r.toNat p) (wq M r.toNat) c else -1
set_option maxRecDepth 20000 in
theorem v_without (l : Launch) : z_V l 105 (sp3 40 (qp3 q_without)) := by
  refine z_V.ofP (by decide +kernel) ?_
  rintro as σ K Post ⟨S, ⟨hOS, f, s, t, f1, s1, t1, f2, s2, t2, tb, f3, s3, t3, nu, ln, sp, ls, g, ta, pl, pf, ps, pt, fi, hz, ks, tz, ra, rf, rt, la, lb, lc, mp, mv, mk, mo, my, mw, ma, ml, ak, dy, br, ad, dp, lm, rs, len, rfl, hAR⟩, r, p, c, rfl, ⟨r1, r2⟩, ⟨p1, p2⟩, ⟨c1, c2⟩, hK⟩ hP1 hP0
  obtain ⟨hR, ⟨fq, rfl, hPR⟩, rfl, rfl, a5, a6, rfl, a8⟩ := id hAR
  have hO := hOS.1
  have hx4 := hO.2.2.2.2.2.2.2.2.2 4 (by omega)
  rw [x_4] at hx4
  have hx5 := hO.2.2.2.2.2.2.2.2.2 5 (by omega)
  rw [x_5] at hx5
  unfold qp3 q_without at hK
  simp only [] at hK
  have fail : Unit → ¬ (0 ≤ r ∧ r < S.1.1 5 ∧ 0 ≤ p ∧ p ≤ 15 ∧ 0 ≤ c ∧ c ≤ 2) → Post (some (.int (iI (-1)))) (wA f s t f1 s1 t1 f2 s2 t2 tb f3 s3 t3 nu ln sp ls g ta pl pf ps pt (iI fq) (iI S.2.1.length) (iI (kmask S.2.2.1 : Nat)) (iI S.2.2.2.1) ra rf rt la lb lc mp mv mk mo my mw ma ml ak dy br ad dp lm rs len) := by
    intro _ hn; rw [if_neg hn] at hK; exact hP1 _ _ (hK _ (isA.mk hOS hAR))
  refine AW.go (bs := b_Appr_without) [] 60 t_Appr_without ?_
  refine ⟨_, v_has l, by decide, f, s, t, rfl, S.1, 5, r, rfl, hR, by omega, ⟨r1, r2⟩, ?_⟩
  refine And.intro (fun h => ?_) (fun h => ?_)
  · rw [zc_beq, decide_eq_false_iff_not] at h; exact fail () (by omega)
  rw [zc_beq, decide_eq_false_iff_not, Classical.not_not] at h
  refine ⟨_, v_isPerson l, by decide, rfl, p, rfl, ⟨p1, p2⟩, ?_⟩
  refine And.intro (fun h => ?_) (fun h => ?_)
  · rw [zc_beq, decide_eq_false_iff_not] at h; exact fail () (by omega)
  rw [zc_beq, decide_eq_false_iff_not, Classical.not_not] at h
  refine And.intro (fun h => ?_) (fun h => ?_)
  · rw [zc_lt0 c1 c2] at h; exact fail () (by omega)
  rw [zc_lt0 c1 c2] at h
  refine And.symm (And.intro (fun h => ?_) (fun h => ?_))
  · rw [zn_i, zc_le c1 c2 (by omega) (by omega)] at h; exact fail () (by omega)
  rw [zn_i, zc_le c1 c2 (by omega) (by omega)] at h
  rw [if_pos (by omega)] at hK
  obtain ⟨j, rfl⟩ : ∃ j : Nat, r = (j : Int) := ⟨r.toNat, by omega⟩
  rw [Int.toNat_natCast] at hK
  have hr : j < S.1.1 5 := by omega
  have hc := hO.2.2.2.2.2.1 j hr
  have hw := whF_rng hO hr (S.1.2.1 5 j 5)
  have hwq : 1 ≤ wq S.1 j ∧ wq S.1 j ≤ 500000 := hw
  have hq := rq_ok hO hr
  have hm := mtA_ok hO hr (p := p) ⟨p1, p2⟩
  have hx := routeF_ok hO hm (wq S.1 j) 12 (S.1.2.1 5 j 1) (S.1.2.1 5 j 5) (by omega)
  show ∃ sp : Sp, _
  refine callA (fun _ => rfl) (v_matterOf l) (by decide) rfl ⟨_, _, _, _, _, _, _, _, _, _, _, _, _, _, _, _, _, _, _, _, _, _, _, _, _, _, _, _, _, _, _, _, _, _, _, _, _, _, _, _, _, _, _, _, _, _, _, _, _, S.1, j, rfl, rfl, hR, hO, hr, kkR isW isW ?_⟩
  refine ⟨_, v_follow l, by decide, _, _, _, f, s, t, S.1, mtA S.1 j p, S.1.2.1 5 j 1, S.1.2.1 5 j 5, wq S.1 j, _, _, _, _, _, _, _, _, rfl, rfl, hR, hO, hm, ⟨by omega, by omega⟩, by omega, by omega, ⟨by omega, by omega⟩, fun sp' ls' ln' ak' dy' br' ad' dp' lm' rs' hRR => ?_⟩
  refine ⟨_, v_outcome l, by decide, _, _, _, _, _, _, _, _, _, _, _, _, _, wq S.1 j, rqA S.1 j p, rfl, hRR, hx.2, c, hx.1, rfl, ⟨c1, c2⟩, ?_⟩
  exact hP1 _ _ (hK _ (isA.mk hOS hAR))
noncomputable def rqO (M : Od) (r : Nat) (o : Int) : List SE := routeF M (mtR M r) (wq M r) 12 o (M.2.1 5 r 5)
noncomputable def q_instead (M : Od) (r o c : Int) : Int := if 0 ≤ r ∧ r < M.1 5 ∧ 0 ≤ o ∧ o < M.1 4 ∧ 0 ≤ c ∧ c ≤ 2 then outF (rqO M r.toNat o) (wq M r.toNat) c else -1
set_option maxRecDepth 20000 in
theorem v_instead (l : Launch) : z_V l 109 (sp3 40 (qp3 q_instead)) := by
  refine z_V.ofP (by decide +kernel) ?_
  rintro as σ K Post ⟨S, ⟨hOS, f, s, t, f1, s1, t1, f2, s2, t2, tb, f3, s3, t3, nu, ln, sp, ls, g, ta, pl, pf, ps, pt, fi, hz, ks, tz, ra, rf, rt, la, lb, lc, mp, mv, mk, mo, my, mw, ma, ml, ak, dy, br, ad, dp, lm, rs, len, rfl, hAR⟩, r, o, c, rfl, ⟨r1, r2⟩, ⟨o1, o2⟩, ⟨c1, c2⟩, hK⟩ hP1 hP0
  obtain ⟨hR, ⟨fq, rfl, hPR⟩, rfl, rfl, a5, a6, rfl, a8⟩ := id hAR
  have hO := hOS.1
  have hx4 := hO.2.2.2.2.2.2.2.2.2 4 (by omega)
  rw [x_4] at hx4
  have hx5 := hO.2.2.2.2.2.2.2.2.2 5 (by omega)
  rw [x_5] at hx5
  unfold qp3 q_instead at hK
  simp only [] at hK
  have fail : Unit → ¬ (0 ≤ r ∧ r < S.1.1 5 ∧ 0 ≤ o ∧ o < S.1.1 4 ∧ 0 ≤ c ∧ c ≤ 2) → Post (some (.int (iI (-1)))) (wA f s t f1 s1 t1 f2 s2 t2 tb f3 s3 t3 nu ln sp ls g ta pl pf ps pt (iI fq) (iI S.2.1.length) (iI (kmask S.2.2.1 : Nat)) (iI S.2.2.2.1) ra rf rt la lb lc mp mv mk mo my mw ma ml ak dy br ad dp lm rs len) := by
    intro _ hn; rw [if_neg hn] at hK; exact hP1 _ _ (hK _ (isA.mk hOS hAR))
  refine AW.go (bs := b_Appr_instead) [] 60 t_Appr_instead ?_
  refine ⟨_, v_has l, by decide, f, s, t, rfl, S.1, 5, r, rfl, hR, by omega, ⟨r1, r2⟩, ?_⟩
  refine And.intro (fun h => ?_) (fun h => ?_)
  · rw [zc_beq, decide_eq_false_iff_not] at h; exact fail () (by omega)
  rw [zc_beq, decide_eq_false_iff_not, Classical.not_not] at h
  refine ⟨_, v_has l, by decide, f, s, t, rfl, S.1, 4, o, rfl, hR, by omega, ⟨o1, o2⟩, ?_⟩
  refine And.intro (fun h => ?_) (fun h => ?_)
  · rw [zc_beq, decide_eq_false_iff_not] at h; exact fail () (by omega)
  rw [zc_beq, decide_eq_false_iff_not, Classical.not_not] at h
  refine And.intro (fun h => ?_) (fun h => ?_)
  · rw [zc_lt0 c1 c2] at h; exact fail () (by omega)
  rw [zc_lt0 c1 c2] at h
  refine And.symm (And.intro (fun h => ?_) (fun h => ?_))
  · rw [zn_i, zc_le c1 c2 (by omega) (by omega)] at h; exact fail () (by omega)
  rw [zn_i, zc_le c1 c2 (by omega) (by omega)] at h
  rw [if_pos (by omega)] at hK
  obtain ⟨j, rfl⟩ : ∃ j : Nat, r = (j : Int) := ⟨r.toNat, by omega⟩
  rw [Int.toNat_natCast] at hK
  have hr : j < S.1.1 5 := by omega
  have hc := hO.2.2.2.2.2.1 j hr
  have hw := whF_rng hO hr (S.1.2.1 5 j 5)
  have hwq : 1 ≤ wq S.1 j ∧ wq S.1 j ≤ 500000 := hw
  have hq := rq_ok hO hr
  have hm := mtR_ok hO hr
  have hx := routeF_ok hO hm (wq S.1 j) 12 o (S.1.2.1 5 j 5) (by omega)
  show ∃ sp : Sp, _
  refine callA (fun _ => rfl) (v_matterOf l) (by decide) rfl ⟨_, _, _, _, _, _, _, _, _, _, _, _, _, _, _, _, _, _, _, _, _, _, _, _, _, _, _, _, _, _, _, _, _, _, _, _, _, _, _, _, _, _, _, _, _, _, _, _, _, S.1, j, rfl, rfl, hR, hO, hr, kkR isW isW ?_⟩
  refine ⟨_, v_follow l, by decide, _, _, _, f, s, t, S.1, mtR S.1 j, o, S.1.2.1 5 j 5, wq S.1 j, _, _, _, _, _, _, _, _, rfl, rfl, hR, hO, hm, ⟨by omega, by omega⟩, by omega, by omega, ⟨by omega, by omega⟩, fun sp' ls' ln' ak' dy' br' ad' dp' lm' rs' hRR => ?_⟩
  refine ⟨_, v_outcome l, by decide, _, _, _, _, _, _, _, _, _, _, _, _, _, wq S.1 j, rqO S.1 j o, rfl, hRR, hx.2, c, hx.1, rfl, ⟨c1, c2⟩, ?_⟩
  exact hP1 _ _ (hK _ (isA.mk hOS hAR))
noncomputable def mostF (M : Od) (r : Nat) (u : Int) : Int := min 9999 (glF 10000 ((rqX M r).take (u + 1).toNat) 0 - amt M (jm M r (M.2.1 5 r 5)) (M.1 5))
noncomputable def q_most (M : Od) (r u : Int) : Int := if 0 ≤ r ∧ r < M.1 5 ∧ 0 ≤ u ∧ u ≤ upN M 12 (M.2.1 4 (M.2.1 5 r.toNat 1).toNat 0) then (if mostF M r.toNat u < 1 then -2 else mostF M r.toNat u) else -1
theorem glF_rng (w : Int) : ∀ (R : List SE) (g : Int), (∀ e ∈ R, rOK e) → 0 ≤ g → g ≤ 9999 → 0 ≤ glF w R g ∧ glF w R g ≤ 9999
  | [], g, _, h0, h1 => ⟨h0, h1⟩
  | e :: R, g, h, h0, h1 => by
    have := sC_rng (h e (by simp)) w 3
    exact glF_rng w R _ (fun e he => h e (by simp [he])) (by omega) (by omega)
set_option maxRecDepth 20000 in
theorem v_most (l : Launch) : z_V l 107 (sp2 40 (qp2 q_most)) := by
  refine z_V.ofP (by decide +kernel) ?_
  rintro as σ K Post ⟨S, hA, r, u, rfl, ⟨r1, r2⟩, ⟨u1, u2⟩, hK⟩ hP1 hP0
  have hA0 := hA
  obtain ⟨hOS, f, s, t, f1, s1, t1, f2, s2, t2, tb, f3, s3, t3, nu, ln, sp, ls, g, ta, pl, pf, ps, pt, fi, hz, ks, tz, ra, rf, rt, la, lb, lc, mp, mv, mk, mo, my, mw, ma, ml, ak, dy, br, ad, dp, lm, rs, len, rfl, hAR⟩ := hA
  obtain ⟨hR, ⟨fq, rfl, hPR⟩, rfl, rfl, a5, a6, rfl, a8⟩ := id hAR
  have hO := hOS.1
  have hx4 := hO.2.2.2.2.2.2.2.2.2 4 (by omega)
  rw [x_4] at hx4
  have hx5 := hO.2.2.2.2.2.2.2.2.2 5 (by omega)
  rw [x_5] at hx5
  unfold qp2 q_most at hK
  simp only [] at hK
  have fail : Unit → ¬ (0 ≤ r ∧ r < S.1.1 5 ∧ 0 ≤ u ∧ u ≤ upN S.1 12 (S.1.2.1 4 (S.1.2.1 5 r.toNat 1).toNat 0)) → Post (some (.int (iI (-1)))) (wA f s t f1 s1 t1 f2 s2 t2 tb f3 s3 t3 nu ln sp ls g ta pl pf ps pt (iI fq) (iI S.2.1.length) (iI (kmask S.2.2.1 : Nat)) (iI S.2.2.2.1) ra rf rt la lb lc mp mv mk mo my mw ma ml ak dy br ad dp lm rs len) := by
    intro _ hn; rw [if_neg hn] at hK; exact hP1 _ _ (hK _ (isA.mk hOS hAR))
  refine AW.go (bs := b_Appr_most) [] 60 t_Appr_most ?_
  refine ⟨_, v_has l, by decide, f, s, t, rfl, S.1, 5, r, rfl, hR, by omega, ⟨r1, r2⟩, ?_⟩
  refine And.intro (fun h => ?_) (fun h => ?_)
  · rw [zc_beq, decide_eq_false_iff_not] at h; exact fail () (by omega)
  rw [zc_beq, decide_eq_false_iff_not, Classical.not_not] at h
  refine And.intro (fun h => ?_) (fun h => ?_)
  · rw [zc_lt0 u1 u2] at h; exact fail () (by omega)
  rw [zc_lt0 u1 u2] at h
  obtain ⟨j, rfl⟩ : ∃ j : Nat, r = (j : Int) := ⟨r.toNat, by omega⟩
  rw [Int.toNat_natCast] at hK fail
  have hr : j < S.1.1 5 := by omega
  have hc := hO.2.2.2.2.2.1 j hr
  have hw := whF_rng hO hr (S.1.2.1 5 j 5)
  have hwq : 1 ≤ wq S.1 j ∧ wq S.1 j ≤ 500000 := hw
  have hq := rq_ok hO hr
  have hx := rqX_ok hO hr
  obtain ⟨o, ho⟩ : ∃ o : Nat, S.1.2.1 5 j 1 = (o : Int) := ⟨(S.1.2.1 5 j 1).toNat, by omega⟩
  have ho4 : o < S.1.1 4 := by omega
  rw [ho, Int.toNat_natCast] at hK fail
  have hup := upN_le S.1 12 (S.1.2.1 4 o 0)
  refine ⟨_, v_cell l, by decide, f, s, t, rfl, S.1, 5, j, 1, rfl, hR, by omega, hr, by decide, ?_⟩
  show ∃ sp : Sp, _
  rw [ho]
  refine ⟨_, v_postsAbove l, by decide, f, s, t, rfl, S.1, o, rfl, hR, hO, ho4, ?_⟩
  refine And.symm (And.intro (fun h => ?_) (fun h => ?_))
  · rw [zc_le u1 u2 (by omega) (by omega)] at h; exact fail () (by omega)
  rw [zc_le u1 u2 (by omega) (by omega)] at h
  rw [if_pos (by omega)] at hK
  show ∃ sp : Sp, _
  refine callA (fun _ => rfl) (v_joined l) (by decide) rfl ⟨S, hA0, j, rfl, ⟨by omega, by omega⟩, fun σ' hA' => kkL isW hA'.w ?_⟩
  clear fail hA0
  have ej : lI (q_joined S.1 j) = lN (jm S.1 j (S.1.2.1 5 j 5)) := by
    unfold q_joined; rw [if_pos (by omega), Int.toNat_natCast, lI_lN]
  clear hOS hAR hR hPR a5 a6 a8
  obtain ⟨hOS, f, s, t, f1, s1, t1, f2, s2, t2, tb, f3, s3, t3, nu, ln, sp, ls, g, ta, pl, pf, ps, pt, fi, hz, ks, tz, ra, rf, rt, la, lb, lc, mp, mv, mk, mo, my, mw, ma, ml, ak, dy, br, ad, dp, lm, rs, len, rfl, hAR⟩ := hA'
  obtain ⟨hR, ⟨fq, rfl, hPR⟩, rfl, rfl, a5, a6, rfl, a8⟩ := id hAR
  show ∃ sp : Sp, _
  rw [ej]
  refine ⟨_, v_amountOf l, by decide, f, s, t, rfl, S.1, jm S.1 j (S.1.2.1 5 j 5), rfl, hR, hO, jm62 hO hr _, ?_⟩
  show ∃ sp : Sp, _
  refine callA (fun _ => rfl) (v_matterOf l) (by decide) rfl ⟨_, _, _, _, _, _, _, _, _, _, _, _, _, _, _, _, _, _, _, _, _, _, _, _, _, _, _, _, _, _, _, _, _, _, _, _, _, _, _, _, _, _, _, _, _, _, _, _, _, S.1, j, rfl, rfl, hR, hO, hr, kkR isW isW ?_⟩
  refine ⟨_, v_climb l, by decide, _, _, _, f, s, t, S.1, mtR S.1 j, S.1.2.1 5 j 1, S.1.2.1 5 j 5, _, _, _, _, _, _, _, _, _, rfl, rfl, hR, hO, mtR_ok hO hr, ⟨by omega, by omega⟩, by omega, by omega, fun sp' ls' ln' ak' dy' br' ad' dp' lm' rs' hRR => ?_⟩
  refine ⟨_, v_greatestLimit l, by decide, _, _, _, _, _, _, _, _, _, _, _, _, _, 10000, rqX S.1 j, rfl, hRR, hx.2, u, hx.1, rfl, ⟨u1, u2⟩, ?_⟩
  have hg := glF_rng 10000 ((rqX S.1 j).take (u + 1).toNat) 0 (fun e he => hx.1 e (List.mem_of_mem_take he)) (by omega) (by omega)
  have hamt := amt_rng hO (jm S.1 j (S.1.2.1 5 j 5)) (n := S.1.1 5) (Nat.le_refl _)
  show _ ∧ _
  rw [iI_sub, show z_nn 9999 0 = iI 9999 from rfl, min_iI (by omega) (by omega) (by omega) (by omega)]
  have hmf : mostF S.1 j u = min 9999 (glF 10000 ((rqX S.1 j).take (u + 1).toNat) 0 - amt S.1 (jm S.1 j (S.1.2.1 5 j 5)) (S.1.1 5)) := rfl
  rw [← hmf]
  refine And.symm (And.intro (fun h => ?_) (fun h => ?_))
  · rw [zn_i, zc_ge (by omega) (by omega) (by omega) (by omega)] at h
    rw [if_pos (by omega)] at hK
    exact hP1 _ _ (hK _ (isA.mk hOS hAR))
  · rw [zn_i, zc_ge (by omega) (by omega) (by omega) (by omega)] at h
    rw [if_neg (by omega)] at hK
    exact hP1 _ _ (hK _ (isA.mk hOS hAR))
