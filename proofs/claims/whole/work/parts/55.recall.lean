theorem rq_ok {M : Od} (hO : OKM M) {r : Nat} (hr : r < M.1 5) : (∀ e ∈ rq M r, rOK e) ∧ (rq M r).length ≤ 12 := routeF_ok hO (mtR_ok hO hr) _ 12 _ _ (by have := hO.2.2.2.2.2.1 r hr; omega)
noncomputable def refF (M : Od) (r y : Int) : Int := if 0 ≤ r ∧ r < M.1 5 ∧ 0 ≤ y ∧ y ≤ 999 ∧ M.2.1 5 r.toNat 5 ≤ y then (if M.2.1 5 r.toNat 6 ≠ -2 then -2 else if lC (rq M r.toNat) (wq M r.toNat) 4 = 0 ∧ lC (rq M r.toNat) (wq M r.toNat) 1 ≤ y then -3 else 0) else -1
def sp_refusal : Sp := spA 34 (fun S as K => ∃ (r y : Int), as = [.ref 0, .int (iI r), .int (iI y)] ∧ ir r ∧ ir y ∧ K (some (.int (iI (refF S.1 r y)))) S)
set_option maxRecDepth 20000 in
theorem v_refusal (l : Launch) : z_V l 133 sp_refusal := by
  refine z_V.ofP (by decide +kernel) ?_
  rintro as σ K Post ⟨S, ⟨hOS, f, s, t, f1, s1, t1, f2, s2, t2, tb, f3, s3, t3, nu, ln, sp, ls, g, ta, pl, pf, ps, pt, fi, hz, ks, tz, ra, rf, rt, la, lb, lc, mp, mv, mk, mo, my, mw, ma, ml, ak, dy, br, ad, dp, lm, rs, len, rfl, hAR⟩, r, y, rfl, ⟨r1, r2⟩, ⟨y1, y2⟩, hK⟩ hP1 hP0
  obtain ⟨hR, ⟨fq, rfl, hPR⟩, rfl, rfl, a5, a6, rfl, a8⟩ := id hAR
  have hO := hOS.1
  have hx4 := hO.2.2.2.2.2.2.2.2.2 4 (by omega)
  rw [x_4] at hx4
  have hx5 := hO.2.2.2.2.2.2.2.2.2 5 (by omega)
  rw [x_5] at hx5
  unfold refF at hK
  have fail : Unit → ¬ (0 ≤ r ∧ r < S.1.1 5 ∧ 0 ≤ y ∧ y ≤ 999 ∧ S.1.2.1 5 r.toNat 5 ≤ y) → Post (some (.int (iI (-1)))) (wA f s t f1 s1 t1 f2 s2 t2 tb f3 s3 t3 nu ln sp ls g ta pl pf ps pt (iI fq) (iI S.2.1.length) (iI (kmask S.2.2.1 : Nat)) (iI S.2.2.2.1) ra rf rt la lb lc mp mv mk mo my mw ma ml ak dy br ad dp lm rs len) := by
    intro _ hn; rw [if_neg hn] at hK; exact hP1 _ _ (hK _ (isA.mk hOS hAR))
  refine AW.go (bs := b_Appr_refusalOfRecall) [] 90 t_Appr_refusalOfRecall ?_
  refine ⟨_, v_has l, by decide, f, s, t, rfl, S.1, 5, r, rfl, hR, by omega, ⟨r1, r2⟩, ?_⟩
  refine And.intro (fun h => ?_) (fun h => ?_)
  · rw [zc_beq, decide_eq_false_iff_not] at h; exact fail () (by omega)
  rw [zc_beq, decide_eq_false_iff_not, Classical.not_not] at h
  refine ⟨_, v_isDay l, by decide, rfl, y, rfl, ⟨y1, y2⟩, ?_⟩
  refine And.intro (fun h => ?_) (fun h => ?_)
  · rw [zc_beq, decide_eq_false_iff_not] at h; exact fail () (by omega)
  rw [zc_beq, decide_eq_false_iff_not, Classical.not_not] at h
  obtain ⟨k, rfl⟩ : ∃ k : Nat, r = (k : Int) := ⟨r.toNat, by omega⟩
  rw [Int.toNat_natCast] at fail hK
  have hr : k < S.1.1 5 := by omega
  have hc := hO.2.2.2.2.2.1 k hr
  have hw := whF_rng hO hr (S.1.2.1 5 k 5)
  have hwq : 1 ≤ wq S.1 k ∧ wq S.1 k ≤ 500000 := hw
  have hq := rq_ok hO hr
  refine ⟨_, v_cell l, by decide, f, s, t, rfl, S.1, 5, k, 5, rfl, hR, by omega, hr, by decide, ?_⟩
  refine And.symm (And.intro (fun h => ?_) (fun h => ?_))
  · rw [zc_ge y1 y2 (by omega) (by omega)] at h; exact fail () (by omega)
  rw [zc_ge y1 y2 (by omega) (by omega)] at h
  rw [if_pos (by omega)] at hK
  refine ⟨_, v_isRecalled l, by decide, f, s, t, rfl, S.1, k, rfl, hR, hO, hr, ?_⟩
  refine And.symm (And.intro (fun h => ?_) (fun h => ?_))
  · rw [zc_beq, decide_eq_false_iff_not, Classical.not_not] at h
    rw [if_pos h] at hK
    exact hP1 _ _ (hK _ (isA.mk hOS hAR))
  rw [zc_beq, decide_eq_false_iff_not] at h
  rw [if_neg h] at hK
  show ∃ sp : Sp, _
  refine callA (fun _ => rfl) (v_matterOf l) (by decide) rfl ⟨_, _, _, _, _, _, _, _, _, _, _, _, _, _, _, _, _, _, _, _, _, _, _, _, _, _, _, _, _, _, _, _, _, _, _, _, _, _, _, _, _, _, _, _, _, _, _, _, _, S.1, k, rfl, rfl, hR, hO, hr, kkR isW isW ?_⟩
  refine ⟨_, v_follow l, by decide, _, _, _, f, s, t, S.1, mtR S.1 k, S.1.2.1 5 k 1, S.1.2.1 5 k 5, wq S.1 k, _, _, _, _, _, _, _, _, rfl, rfl, hR, hO, mtR_ok hO hr, ⟨by omega, by omega⟩, by omega, by omega, ⟨by omega, by omega⟩, fun sp' ls' ln' ak' dy' br' ad' dp' lm' rs' hRR => ?_⟩
  have hl1 := lC_rng hq.1 (wq S.1 k) 1
  refine ⟨_, v_isApproved l, by decide, _, _, _, _, _, _, _, _, _, _, _, _, _, wq S.1 k, rq S.1 k, rfl, hRR, hq.2, hq.1, rfl, ?_⟩
  refine And.intro (fun h => ?_) (fun h => ?_)
  · rw [zc_beq, decide_eq_false_iff_not] at h
    rw [if_neg (fun q => h q.1)] at hK
    exact hP1 _ _ (hK _ (isA.mk hOS hAR))
  rw [zc_beq, decide_eq_false_iff_not, Classical.not_not] at h
  refine ⟨_, v_lastCell l, by decide, _, _, _, _, _, _, _, _, _, _, _, _, _, wq S.1 k, rq S.1 k, rfl, hRR, hq.2, 1, rfl, by omega, ?_⟩
  refine And.intro (fun h2 => ?_) (fun h2 => ?_)
  · rw [zc_gt (by omega) (by omega) y1 y2] at h2
    rw [if_neg (fun q => by omega)] at hK
    exact hP1 _ _ (hK _ (isA.mk hOS hAR))
  · rw [zc_gt (by omega) (by omega) y1 y2] at h2
    rw [if_pos ⟨h, by omega⟩] at hK
    exact hP1 _ _ (hK _ (isA.mk hOS hAR))
theorem refF_rng (M : Od) (r y : Int) : -3 ≤ refF M r y ∧ refF M r y ≤ 0 := by
  unfold refF
  split <;> (try split) <;> (try split) <;> omega
theorem refF_0 {M : Od} {r y : Int} (h : refF M r y = 0) : 0 ≤ r ∧ r < M.1 5 ∧ 0 ≤ y ∧ y ≤ 999 ∧ M.2.1 5 r.toNat 5 ≤ y ∧ M.2.1 5 r.toNat 6 = -2 := by
  unfold refF at h
  split at h
  · next g =>
    split at h
    · omega
    · next g2 => exact ⟨g.1, g.2.1, g.2.2.1, g.2.2.2.1, g.2.2.2.2, by omega⟩
  · omega
noncomputable def f_recall (S : St) (r y : Int) : Int × St := if refF S.1 r y = 0 then (1, act S (oPut S.1 5 r.toNat 6 y)) else (refF S.1 r y, S)
theorem oPut6_ok {M : Od} (hO : OKM M) {r : Nat} {y : Int} (hr : r < M.1 5) (h1 : M.2.1 5 r 5 ≤ y) (h2 : y ≤ 999) : OKM (oPut M 5 r 6 y) := by
  refine oPut_ok hO ?_
  have h := hO.2.2.2.2.2.1 r hr
  show 0 ≤ M.2.1 5 r 0 ∧ M.2.1 5 r 0 < 16 ∧ 0 ≤ M.2.1 5 r 1 ∧ M.2.1 5 r 1 < M.1 4 ∧ 0 ≤ M.2.1 5 r 2 ∧ M.2.1 5 r 2 < 10 ∧ 0 ≤ M.2.1 5 r 3 ∧ M.2.1 5 r 3 < 3 ∧ 1 ≤ M.2.1 5 r 4 ∧ M.2.1 5 r 4 ≤ 9999 ∧ 0 ≤ M.2.1 5 r 5 ∧ M.2.1 5 r 5 ≤ 999 ∧ (y = -2 ∨ (0 ≤ y ∧ y ≤ 999))
  omega
set_option maxRecDepth 20000 in
theorem v_recall (l : Launch) : z_V l 82 (sp2 40 f_recall) := by
  refine z_V.ofP (by decide +kernel) ?_
  rintro as σ K Post ⟨S, hA, r, y, rfl, ⟨r1, r2⟩, ⟨y1, y2⟩, hK⟩ hP1 hP0
  have hA0 := hA
  obtain ⟨hOS, f, s, t, f1, s1, t1, f2, s2, t2, tb, f3, s3, t3, nu, ln, sp, ls, g, ta, pl, pf, ps, pt, fi, hz, ks, tz, ra, rf, rt, la, lb, lc, mp, mv, mk, mo, my, mw, ma, ml, ak, dy, br, ad, dp, lm, rs, len, rfl, hAR⟩ := hA
  unfold f_recall at hK
  have hf := refF_rng S.1 r y
  refine AW.go (bs := b_Appr_recall) [] 60 t_Appr_recall ?_
  show ∃ sp : Sp, _
  refine callA (fun _ => rfl) (v_refusal l) (by decide) rfl ⟨S, hA0, r, y, rfl, ⟨r1, r2⟩, ⟨y1, y2⟩, fun σ' hA' => kkA isW hA'.w ?_⟩
  clear hA0 hAR hOS
  obtain ⟨hOS, f, s, t, f1, s1, t1, f2, s2, t2, tb, f3, s3, t3, nu, ln, sp, ls, g, ta, pl, pf, ps, pt, fi, hz, ks, tz, ra, rf, rt, la, lb, lc, mp, mv, mk, mo, my, mw, ma, ml, ak, dy, br, ad, dp, lm, rs, len, rfl, hAR⟩ := hA'
  obtain ⟨hR, ⟨fq, rfl, hPR⟩, rfl, rfl, a5, a6, rfl, a8⟩ := id hAR
  have hO := hOS.1
  have hx4 := hO.2.2.2.2.2.2.2.2.2 4 (by omega)
  rw [x_4] at hx4
  have hx5 := hO.2.2.2.2.2.2.2.2.2 5 (by omega)
  rw [x_5] at hx5
  refine And.symm (And.intro (fun h => ?_) (fun h => ?_))
  · rw [zc_eq0 (by omega) (by omega)] at h
    rw [if_neg h] at hK
    exact hP1 _ _ (hK _ (isA.mk hOS hAR))
  rw [zc_eq0 (by omega) (by omega)] at h
  rw [if_pos h] at hK
  have g := refF_0 h
  obtain ⟨k, rfl⟩ : ∃ k : Nat, r = (k : Int) := ⟨r.toNat, by omega⟩
  rw [Int.toNat_natCast] at hK g
  refine ⟨_, v_remember l, by decide, pf, ps, pt, fq, S.2.1, f, s, t, S.1, rfl, rfl, hR, hPR, fun pf' ps' pt' q' hPR' => ?_⟩
  refine ⟨_, v_put l, by decide, f, s, t, rfl, 5, k, 6, _, rfl, by omega, by rw [x_5]; omega, by decide, ?_⟩
  exact hP1 _ _ (hK _ (isA.mk (act_ok hOS (oPut6_ok hO (by omega) (by omega) (by omega))) (hAR.act (hR.put (by omega) (by omega) (by decide) y) hPR')))
noncomputable def f_amend (S : St) (r a y : Int) : Int × St := if refF S.1 r y = -1 ∨ ¬ (1 ≤ a ∧ a ≤ 9999) then (-1, S) else if 40 ≤ S.1.1 5 then (-2, S) else if refF S.1 r y ≠ 0 then (refF S.1 r y, S) else
  ((S.1.1 5 : Int), act S (oAdd (oPut S.1 5 r.toNat 6 y) 5 (fun i => [S.1.2.1 5 r.toNat 0, S.1.2.1 5 r.toNat 1, S.1.2.1 5 r.toNat 2, S.1.2.1 5 r.toNat 3, a, y, -2].getD i 0)))
set_option maxRecDepth 20000 in
theorem v_amend (l : Launch) : z_V l 83 (sp3 40 f_amend) := by
  refine z_V.ofP (by decide +kernel) ?_
  rintro as σ K Post ⟨S, hA, r, a, y, rfl, ⟨r1, r2⟩, ⟨a1, a2⟩, ⟨y1, y2⟩, hK⟩ hP1 hP0
  have hA0 := hA
  obtain ⟨hOS, f, s, t, f1, s1, t1, f2, s2, t2, tb, f3, s3, t3, nu, ln, sp, ls, g, ta, pl, pf, ps, pt, fi, hz, ks, tz, ra, rf, rt, la, lb, lc, mp, mv, mk, mo, my, mw, ma, ml, ak, dy, br, ad, dp, lm, rs, len, rfl, hAR⟩ := hA
  unfold f_amend at hK
  have hf := refF_rng S.1 r y
  refine AW.go (bs := b_Appr_amend) [] 90 t_Appr_amend ?_
  show ∃ sp : Sp, _
  refine callA (fun _ => rfl) (v_refusal l) (by decide) rfl ⟨S, hA0, r, y, rfl, ⟨r1, r2⟩, ⟨y1, y2⟩, fun σ' hA' => kkA isW hA'.w ?_⟩
  clear hA0 hAR hOS
  obtain ⟨hOS, f, s, t, f1, s1, t1, f2, s2, t2, tb, f3, s3, t3, nu, ln, sp, ls, g, ta, pl, pf, ps, pt, fi, hz, ks, tz, ra, rf, rt, la, lb, lc, mp, mv, mk, mo, my, mw, ma, ml, ak, dy, br, ad, dp, lm, rs, len, rfl, hAR⟩ := hA'
  obtain ⟨hR, ⟨fq, rfl, hPR⟩, rfl, rfl, a5, a6, rfl, a8⟩ := id hAR
  have hO := hOS.1
  have hx4 := hO.2.2.2.2.2.2.2.2.2 4 (by omega)
  rw [x_4] at hx4
  have hx5 := hO.2.2.2.2.2.2.2.2.2 5 (by omega)
  rw [x_5] at hx5
  refine And.intro (fun h => ?_) (fun h => ?_)
  · have h := (zc_eq (b := -1) (by omega) (by omega) (by omega) (by omega)).mp h
    rw [if_pos (Or.inl h)] at hK
    exact hP1 _ _ (hK _ (isA.mk hOS hAR))
  have h1 := mt (zc_eq (b := -1) (by omega) (by omega) (by omega) (by omega)).mpr h
  refine ⟨_, v_isAmount l, by decide, rfl, a, rfl, ⟨a1, a2⟩, ?_⟩
  refine And.symm (And.intro (fun h => ?_) (fun h => ?_))
  · rw [zc_bne, decide_eq_true_eq] at h
    rw [if_pos (Or.inr h)] at hK
    exact hP1 _ _ (hK _ (isA.mk hOS hAR))
  rw [zc_bne, decide_eq_true_eq] at h
  rw [if_neg (fun q => by omega)] at hK
  refine ⟨_, v_isFull l, by decide, f, s, t, rfl, S.1, 5, rfl, hR, by omega, ?_⟩
  refine And.symm (And.intro (fun h => ?_) (fun h => ?_))
  · rw [zc_beq, decide_eq_false_iff_not, Classical.not_not, x_5] at h
    rw [if_pos h] at hK
    exact hP1 _ _ (hK _ (isA.mk hOS hAR))
  rw [zc_beq, decide_eq_false_iff_not, x_5] at h
  rw [if_neg h] at hK
  refine And.symm (And.intro (fun h => ?_) (fun h => ?_))
  · rw [zc_eq0 (by omega) (by omega)] at h
    rw [if_pos h] at hK
    exact hP1 _ _ (hK _ (isA.mk hOS hAR))
  rw [zc_eq0 (by omega) (by omega)] at h
  rw [if_neg (fun q => q h)] at hK
  have g := refF_0 h
  obtain ⟨k, rfl⟩ : ∃ k : Nat, r = (k : Int) := ⟨r.toNat, by omega⟩
  rw [Int.toNat_natCast] at hK g
  have hr : k < S.1.1 5 := by omega
  have hc := hO.2.2.2.2.2.1 k hr
  have hR2 := hR.put (d := 5) (c := 6) (by omega) hr (by decide) y
  have hO2 := oPut6_ok hO hr (y := y) (by omega) (by omega)
  have ec : ∀ c, c < 6 → (oPut S.1 5 k 6 y).2.1 5 k c = S.1.2.1 5 k c := fun c hc => by
    show (if 5 = 5 ∧ k = k ∧ c = 6 then y else S.1.2.1 5 k c) = _
    rw [if_neg (by omega)]
  refine ⟨_, v_remember l, by decide, pf, ps, pt, fq, S.2.1, f, s, t, S.1, rfl, rfl, hR, hPR, fun pf' ps' pt' q' hPR' => ?_⟩
  refine ⟨_, v_put l, by decide, f, s, t, rfl, 5, k, 6, _, rfl, by omega, by rw [x_5]; omega, by decide, ?_⟩
  refine ⟨_, v_cell l, by decide, _, s, t, rfl, oPut S.1 5 k 6 y, 5, k, 0, rfl, hR2, by omega, hr, by decide, ?_⟩
  refine ⟨_, v_cell l, by decide, _, s, t, rfl, oPut S.1 5 k 6 y, 5, k, 1, rfl, hR2, by omega, hr, by decide, ?_⟩
  refine ⟨_, v_cell l, by decide, _, s, t, rfl, oPut S.1 5 k 6 y, 5, k, 2, rfl, hR2, by omega, hr, by decide, ?_⟩
  refine ⟨_, v_cell l, by decide, _, s, t, rfl, oPut S.1 5 k 6 y, 5, k, 3, rfl, hR2, by omega, hr, by decide, ?_⟩
  show ∃ sp : Sp, _
  rw [ec 0 (by omega), ec 1 (by omega), ec 2 (by omega), ec 3 (by omega)]
  refine ⟨_, v_addRequest l, by decide, _, s, t, rfl, oPut S.1 5 k 6 y, _, _, _, _, a, y, rfl, hR2, by show S.1.1 5 < 40; omega, fun f' s' hR' => ?_⟩
  refine hP1 _ _ (hK _ (isA.mk (act_ok hOS (oAdd_ok hO2 (by omega) (by rw [x_5]; show S.1.1 5 < 40; omega) ?_)) (hAR.act hR' hPR')))
  show 0 ≤ S.1.2.1 5 k 0 ∧ S.1.2.1 5 k 0 < 16 ∧ 0 ≤ S.1.2.1 5 k 1 ∧ S.1.2.1 5 k 1 < S.1.1 4 ∧ 0 ≤ S.1.2.1 5 k 2 ∧ S.1.2.1 5 k 2 < 10 ∧ 0 ≤ S.1.2.1 5 k 3 ∧ S.1.2.1 5 k 3 < 3 ∧ 1 ≤ a ∧ a ≤ 9999 ∧ 0 ≤ y ∧ y ≤ 999 ∧ ((-2 : Int) = -2 ∨ _)
  refine ⟨by omega, by omega, by omega, by omega, by omega, by omega, by omega, by omega, by omega, by omega, by omega, by omega, Or.inl rfl⟩
