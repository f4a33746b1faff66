/-! the acts -/
theorem AR.act {S : St} {M' : Od} {f s t f1 s1 t1 f2 s2 t2 tb : Nat → Int32} {pf ps pt : Nat → Nat → Int32} {fi hz ks tz : Int32} (h : AR S f s t f1 s1 t1 f2 s2 t2 tb pf ps pt fi hz ks tz) {f' s' t' : Nat → Int32} {pf' ps' pt' : Nat → Nat → Int32} {q : Nat} (h1 : RS f' s' t' M') (h2 : PR pf' ps' pt' q (hisA S.2.1 S.1)) : AR (act S M') f' s' t' f1 s1 t1 f2 s2 t2 tb pf' ps' pt' (iI q) (iI (hisA S.2.1 S.1).length) ks tz :=
  ⟨h1, ⟨q, rfl, h2⟩, rfl, h.2.2.2⟩
def f_request (S : St) (p o q a y : Int) : Int × St := if 0 ≤ p ∧ p ≤ 15 ∧ 0 ≤ o ∧ o < S.1.1 4 ∧ 0 ≤ q ∧ q ≤ 29 ∧ 1 ≤ a ∧ a ≤ 9999 ∧ 0 ≤ y ∧ y ≤ 999 then (if S.1.1 5 < 40 then ((S.1.1 5 : Int), act S (oAdd S.1 5 (fun i => [p, o, q % 10, q / 10, a, y, -2].getD i 0))) else (-2, S)) else (-1, S)
def sp5 (rk : Nat) (F : St → Int → Int → Int → Int → Int → Int × St) : Sp := spA rk (fun S as K => ∃ (a b c d e : Int), as = [.ref 0, .int (iI a), .int (iI b), .int (iI c), .int (iI d), .int (iI e)] ∧ ir a ∧ ir b ∧ ir c ∧ ir d ∧ ir e ∧ K (some (.int (iI (F S a b c d e).1))) (F S a b c d e).2)
def sp4 (rk : Nat) (F : St → Int → Int → Int → Int → Int × St) : Sp := spA rk (fun S as K => ∃ (a b c d : Int), as = [.ref 0, .int (iI a), .int (iI b), .int (iI c), .int (iI d)] ∧ ir a ∧ ir b ∧ ir c ∧ ir d ∧ K (some (.int (iI (F S a b c d).1))) (F S a b c d).2)
def sp3 (rk : Nat) (F : St → Int → Int → Int → Int × St) : Sp := spA rk (fun S as K => ∃ (a b c : Int), as = [.ref 0, .int (iI a), .int (iI b), .int (iI c)] ∧ ir a ∧ ir b ∧ ir c ∧ K (some (.int (iI (F S a b c).1))) (F S a b c).2)
def sp2 (rk : Nat) (F : St → Int → Int → Int × St) : Sp := spA rk (fun S as K => ∃ (a b : Int), as = [.ref 0, .int (iI a), .int (iI b)] ∧ ir a ∧ ir b ∧ K (some (.int (iI (F S a b).1))) (F S a b).2)
def sp1 (rk : Nat) (F : St → Int → Int × St) : Sp := spA rk (fun S as K => ∃ (a : Int), as = [.ref 0, .int (iI a)] ∧ ir a ∧ K (some (.int (iI (F S a).1))) (F S a).2)
def sp0S (rk : Nat) (F : St → Int × St) : Sp := spA rk (fun S as K => as = [.ref 0] ∧ K (some (.int (iI (F S).1))) (F S).2)
set_option maxRecDepth 20000 in
theorem v_request (l : Launch) : z_V l 81 (sp5 40 f_request) := by
  refine z_V.ofP (by decide +kernel) ?_
  rintro as σ K Post ⟨S, ⟨hOS, f, s, t, f1, s1, t1, f2, s2, t2, tb, f3, s3, t3, nu, ln, sp, ls, g, ta, pl, pf, ps, pt, fi, hz, ks, tz, ra, rf, rt, la, lb, lc, mp, mv, mk, mo, my, mw, ma, ml, ak, dy, br, ad, dp, lm, rs, len, rfl, hAR⟩, p, o, q, a, y, rfl, ⟨p1, p2⟩, ⟨o1, o2⟩, ⟨q1, q2⟩, ⟨a1, a2⟩, ⟨y1, y2⟩, hK⟩ hP1 hP0
  obtain ⟨hR, ⟨fq, rfl, hPR⟩, rfl, rfl, a5, a6, rfl, a8⟩ := id hAR
  have hO := hOS.1
  have hx4 := hO.2.2.2.2.2.2.2.2.2 4 (by omega)
  rw [x_4] at hx4
  have hx5 := hO.2.2.2.2.2.2.2.2.2 5 (by omega)
  rw [x_5] at hx5
  unfold f_request at hK
  have fail : Unit → ¬ (0 ≤ p ∧ p ≤ 15 ∧ 0 ≤ o ∧ o < S.1.1 4 ∧ 0 ≤ q ∧ q ≤ 29 ∧ 1 ≤ a ∧ a ≤ 9999 ∧ 0 ≤ y ∧ y ≤ 999) → Post (some (.int (iI (-1)))) (wA f s t f1 s1 t1 f2 s2 t2 tb f3 s3 t3 nu ln sp ls g ta pl pf ps pt (iI fq) (iI S.2.1.length) (iI (kmask S.2.2.1 : Nat)) (iI S.2.2.2.1) ra rf rt la lb lc mp mv mk mo my mw ma ml ak dy br ad dp lm rs len) := by
    intro _ hn; rw [if_neg hn] at hK; exact hP1 _ _ (hK _ (isA.mk hOS hAR))
  refine AW.go (bs := b_Appr_request) [] 60 t_Appr_request ?_
  refine ⟨_, v_isPerson l, by decide, rfl, p, rfl, ⟨p1, p2⟩, ?_⟩
  refine And.intro (fun h => ?_) (fun h => ?_)
  · rw [zc_beq, decide_eq_false_iff_not] at h; exact fail () (by omega)
  rw [zc_beq, decide_eq_false_iff_not, Classical.not_not] at h
  refine ⟨_, v_has l, by decide, f, s, t, rfl, S.1, 4, o, rfl, hR, by omega, ⟨o1, o2⟩, ?_⟩
  refine And.intro (fun h => ?_) (fun h => ?_)
  · rw [zc_beq, decide_eq_false_iff_not] at h; exact fail () (by omega)
  rw [zc_beq, decide_eq_false_iff_not, Classical.not_not] at h
  refine ⟨_, v_isWhich l, by decide, rfl, q, rfl, ⟨q1, q2⟩, ?_⟩
  refine And.intro (fun h => ?_) (fun h => ?_)
  · rw [zc_beq, decide_eq_false_iff_not] at h; exact fail () (by omega)
  rw [zc_beq, decide_eq_false_iff_not, Classical.not_not] at h
  refine ⟨_, v_isAmount l, by decide, rfl, a, rfl, ⟨a1, a2⟩, ?_⟩
  refine And.intro (fun h => ?_) (fun h => ?_)
  · rw [zc_beq, decide_eq_false_iff_not] at h; exact fail () (by omega)
  rw [zc_beq, decide_eq_false_iff_not, Classical.not_not] at h
  refine ⟨_, v_isDay l, by decide, rfl, y, rfl, ⟨y1, y2⟩, ?_⟩
  refine And.symm (And.intro (fun h => ?_) (fun h => ?_))
  · rw [zc_bne, decide_eq_true_eq] at h; exact fail () (by omega)
  rw [zc_bne, decide_eq_true_eq] at h
  rw [if_pos (by omega)] at hK
  refine ⟨_, v_isFull l, by decide, f, s, t, rfl, S.1, 5, rfl, hR, by omega, ?_⟩
  refine And.symm (And.intro (fun h => ?_) (fun h => ?_))
  · rw [zc_beq, decide_eq_false_iff_not, Classical.not_not, x_5] at h
    rw [if_neg (by omega)] at hK
    exact hP1 _ _ (hK _ (isA.mk hOS hAR))
  · rw [zc_beq, decide_eq_false_iff_not, x_5] at h
    rw [if_pos (by omega)] at hK
    refine ⟨_, v_remember l, by decide, pf, ps, pt, fq, S.2.1, f, s, t, S.1, rfl, rfl, hR, hPR, fun pf' ps' pt' q' hPR' => ?_⟩
    refine And.intro (by decide) ?_
    refine And.intro (by decide) ?_
    show ∃ sp : Sp, _
    rw [zn_i 10, iI_rem (by omega) (by omega) (by omega) (by omega), iI_div (by omega) (by omega) (by omega) (by omega)]
    refine ⟨_, v_addRequest l, by decide, f, s, t, rfl, S.1, p, o, q % 10, q / 10, a, y, rfl, hR, by omega, fun f' s' hR' => ?_⟩
    refine hP1 _ _ (hK _ ?_)
    refine isA.mk ?_ (hAR.act hR' hPR')
    refine act_ok hOS (oAdd_ok hO (by omega) (by rw [x_5]; omega) ?_)
    show 0 ≤ p ∧ p < 16 ∧ 0 ≤ o ∧ o < S.1.1 4 ∧ 0 ≤ q % 10 ∧ q % 10 < 10 ∧ 0 ≤ q / 10 ∧ q / 10 < 3 ∧ 1 ≤ a ∧ a ≤ 9999 ∧ 0 ≤ y ∧ y ≤ 999 ∧ ((-2 : Int) = -2 ∨ _)
    refine ⟨by omega, by omega, by omega, by omega, by omega, by omega, by omega, by omega, by omega, by omega, by omega, by omega, Or.inl rfl⟩
/-- an entry more -/
def f_add (S : St) (d : Nat) (row : Nat → Int) : Int × St := if S.1.1 d < oX d then ((S.1.1 d : Int), act S (oAdd S.1 d row)) else (-2, S)
def sp_addEntry : Sp := spA 3 (fun S as K => ∃ (d : Nat) (a b c x e : Int), as = [.ref 0, .int (iI d), .int (iI a), .int (iI b), .int (iI c), .int (iI x), .int (iI e)] ∧ d < 4 ∧ rowOK (S.1.1 4) d (S.1.1 d) (fun i => [a, b, c, x, e].getD i 0) ∧ K (some (.int (iI (f_add S d (fun i => [a, b, c, x, e].getD i 0)).1))) (f_add S d (fun i => [a, b, c, x, e].getD i 0)).2)
set_option maxRecDepth 20000 in
theorem v_addEntry (l : Launch) : z_V l 132 sp_addEntry := by
  refine z_V.ofP (by decide +kernel) ?_
  rintro as σ K Post ⟨S, ⟨hOS, f, s, t, f1, s1, t1, f2, s2, t2, tb, f3, s3, t3, nu, ln, sp, ls, g, ta, pl, pf, ps, pt, fi, hz, ks, tz, ra, rf, rt, la, lb, lc, mp, mv, mk, mo, my, mw, ma, ml, ak, dy, br, ad, dp, lm, rs, len, rfl, hAR⟩, d, a, b, c, x, e, rfl, hd, hrow, hK⟩ hP1 hP0
  obtain ⟨hR, ⟨fq, rfl, hPR⟩, rfl, rfl, a5, a6, rfl, a8⟩ := id hAR
  have hO := hOS.1
  have hx4 := hO.2.2.2.2.2.2.2.2.2 4 (by omega)
  rw [x_4] at hx4
  have hx5 := hO.2.2.2.2.2.2.2.2.2 5 (by omega)
  rw [x_5] at hx5
  unfold f_add at hK
  refine AW.go (bs := b_Appr_addEntry) [] 60 t_Appr_addEntry ?_
  refine ⟨_, v_isFull l, by decide, f, s, t, rfl, S.1, d, rfl, hR, by omega, ?_⟩
  refine And.symm (And.intro (fun h => ?_) (fun h => ?_))
  · rw [zc_beq, decide_eq_false_iff_not, Classical.not_not] at h
    rw [if_neg (by omega)] at hK
    exact hP1 _ _ (hK _ (isA.mk hOS hAR))
  · rw [zc_beq, decide_eq_false_iff_not] at h
    rw [if_pos (by omega)] at hK
    refine ⟨_, v_remember l, by decide, pf, ps, pt, fq, S.2.1, f, s, t, S.1, rfl, rfl, hR, hPR, fun pf' ps' pt' q' hPR' => ?_⟩
    refine ⟨_, v_addRowM l, by decide, f, s, t, rfl, S.1, d, a, b, c, x, e, rfl, hR, by omega, by omega, fun f' s' hR' => ?_⟩
    exact hP1 _ _ (hK _ (isA.mk (act_ok hOS (oAdd_ok hO (by omega) (by omega) hrow)) (hAR.act hR' hPR')))
def f_hold (S : St) (o p u v : Int) : Int × St := if 0 ≤ o ∧ o < S.1.1 4 ∧ 0 ≤ p ∧ p ≤ 15 ∧ 0 ≤ u ∧ u ≤ v ∧ v ≤ 999 then f_add S 0 (fun i => [o, p, u, v, 0].getD i 0) else (-1, S)
set_option maxRecDepth 20000 in
theorem v_hold (l : Launch) : z_V l 84 (sp4 40 f_hold) := by
  refine z_V.ofP (by decide +kernel) ?_
  rintro as σ K Post ⟨S, ⟨hOS, f, s, t, f1, s1, t1, f2, s2, t2, tb, f3, s3, t3, nu, ln, sp, ls, g, ta, pl, pf, ps, pt, fi, hz, ks, tz, ra, rf, rt, la, lb, lc, mp, mv, mk, mo, my, mw, ma, ml, ak, dy, br, ad, dp, lm, rs, len, rfl, hAR⟩, o, p, u, v, rfl, ⟨o1, o2⟩, ⟨p1, p2⟩, ⟨u1, u2⟩, ⟨v1, v2⟩, hK⟩ hP1 hP0
  obtain ⟨hR, ⟨fq, rfl, hPR⟩, rfl, rfl, a5, a6, rfl, a8⟩ := id hAR
  have hO := hOS.1
  have hx4 := hO.2.2.2.2.2.2.2.2.2 4 (by omega)
  rw [x_4] at hx4
  have hx5 := hO.2.2.2.2.2.2.2.2.2 5 (by omega)
  rw [x_5] at hx5
  unfold f_hold at hK
  have fail : Unit → ¬ (0 ≤ o ∧ o < S.1.1 4 ∧ 0 ≤ p ∧ p ≤ 15 ∧ 0 ≤ u ∧ u ≤ v ∧ v ≤ 999) → Post (some (.int (iI (-1)))) (wA f s t f1 s1 t1 f2 s2 t2 tb f3 s3 t3 nu ln sp ls g ta pl pf ps pt (iI fq) (iI S.2.1.length) (iI (kmask S.2.2.1 : Nat)) (iI S.2.2.2.1) ra rf rt la lb lc mp mv mk mo my mw ma ml ak dy br ad dp lm rs len) := by
    intro _ hn; rw [if_neg hn] at hK; exact hP1 _ _ (hK _ (isA.mk hOS hAR))
  refine AW.go (bs := b_Appr_hold) [] 60 t_Appr_hold ?_
  refine ⟨_, v_has l, by decide, f, s, t, rfl, S.1, 4, o, rfl, hR, by omega, ⟨o1, o2⟩, ?_⟩
  refine And.intro (fun h => ?_) (fun h => ?_)
  · rw [zc_beq, decide_eq_false_iff_not] at h; exact fail () (by omega)
  rw [zc_beq, decide_eq_false_iff_not, Classical.not_not] at h
  refine ⟨_, v_isPerson l, by decide, rfl, p, rfl, ⟨p1, p2⟩, ?_⟩
  refine And.intro (fun h => ?_) (fun h => ?_)
  · rw [zc_beq, decide_eq_false_iff_not] at h; exact fail () (by omega)
  rw [zc_beq, decide_eq_false_iff_not, Classical.not_not] at h
  refine ⟨_, v_areDays l, by decide, rfl, u, v, rfl, ⟨u1, u2⟩, ⟨v1, v2⟩, ?_⟩
  refine And.symm (And.intro (fun h => ?_) (fun h => ?_))
  · rw [zc_bne, dys, decide_eq_true_eq] at h; exact fail () (by omega)
  rw [zc_bne, dys, decide_eq_true_eq] at h
  rw [if_pos (by omega)] at hK
  show ∃ sp : Sp, _
  refine callA (fun _ => rfl) (v_addEntry l) (by decide) rfl ⟨S, isA.mk hOS hAR, 0, o, p, u, v, 0, rfl, by omega, ?_, fun σ' hA' => kkA isW hA'.w ?_⟩
  · show 0 ≤ o ∧ o < S.1.1 4 ∧ 0 ≤ p ∧ p < 16 ∧ 0 ≤ u ∧ u ≤ v ∧ v ≤ 999
    omega
  · obtain ⟨hOS', f, s, t, f1, s1, t1, f2, s2, t2, tb, f3, s3, t3, nu, ln, sp, ls, g, ta, pl, pf, ps, pt, fi, hz, ks, tz, ra, rf, rt, la, lb, lc, mp, mv, mk, mo, my, mw, ma, ml, ak, dy, br, ad, dp, lm, rs, len, rfl, hAR'⟩ := hA'
    exact hP1 _ _ (hK _ (isA.mk hOS' hAR'))
def f_away (S : St) (p u v : Int) : Int × St := if 0 ≤ p ∧ p ≤ 15 ∧ 0 ≤ u ∧ u ≤ v ∧ v ≤ 999 then f_add S 1 (fun i => [p, u, v, 0, 0].getD i 0) else (-1, S)
set_option maxRecDepth 20000 in
theorem v_away (l : Launch) : z_V l 85 (sp3 40 f_away) := by
  refine z_V.ofP (by decide +kernel) ?_
  rintro as σ K Post ⟨S, ⟨hOS, f, s, t, f1, s1, t1, f2, s2, t2, tb, f3, s3, t3, nu, ln, sp, ls, g, ta, pl, pf, ps, pt, fi, hz, ks, tz, ra, rf, rt, la, lb, lc, mp, mv, mk, mo, my, mw, ma, ml, ak, dy, br, ad, dp, lm, rs, len, rfl, hAR⟩, p, u, v, rfl, ⟨p1, p2⟩, ⟨u1, u2⟩, ⟨v1, v2⟩, hK⟩ hP1 hP0
  obtain ⟨hR, ⟨fq, rfl, hPR⟩, rfl, rfl, a5, a6, rfl, a8⟩ := id hAR
  have hO := hOS.1
  have hx4 := hO.2.2.2.2.2.2.2.2.2 4 (by omega)
  rw [x_4] at hx4
  have hx5 := hO.2.2.2.2.2.2.2.2.2 5 (by omega)
  rw [x_5] at hx5
  unfold f_away at hK
  have fail : Unit → ¬ (0 ≤ p ∧ p ≤ 15 ∧ 0 ≤ u ∧ u ≤ v ∧ v ≤ 999) → Post (some (.int (iI (-1)))) (wA f s t f1 s1 t1 f2 s2 t2 tb f3 s3 t3 nu ln sp ls g ta pl pf ps pt (iI fq) (iI S.2.1.length) (iI (kmask S.2.2.1 : Nat)) (iI S.2.2.2.1) ra rf rt la lb lc mp mv mk mo my mw ma ml ak dy br ad dp lm rs len) := by
    intro _ hn; rw [if_neg hn] at hK; exact hP1 _ _ (hK _ (isA.mk hOS hAR))
  refine AW.go (bs := b_Appr_away) [] 60 t_Appr_away ?_
  refine ⟨_, v_isPerson l, by decide, rfl, p, rfl, ⟨p1, p2⟩, ?_⟩
  refine And.intro (fun h => ?_) (fun h => ?_)
  · rw [zc_beq, decide_eq_false_iff_not] at h; exact fail () (by omega)
  rw [zc_beq, decide_eq_false_iff_not, Classical.not_not] at h
  refine ⟨_, v_areDays l, by decide, rfl, u, v, rfl, ⟨u1, u2⟩, ⟨v1, v2⟩, ?_⟩
  refine And.symm (And.intro (fun h => ?_) (fun h => ?_))
  · rw [zc_bne, dys, decide_eq_true_eq] at h; exact fail () (by omega)
  rw [zc_bne, dys, decide_eq_true_eq] at h
  rw [if_pos (by omega)] at hK
  show ∃ sp : Sp, _
  refine callA (fun _ => rfl) (v_addEntry l) (by decide) rfl ⟨S, isA.mk hOS hAR, 1, p, u, v, 0, 0, rfl, by omega, ?_, fun σ' hA' => kkA isW hA'.w ?_⟩
  · show 0 ≤ p ∧ p < 16 ∧ 0 ≤ u ∧ u ≤ v ∧ v ≤ 999
    omega
  · obtain ⟨hOS', f, s, t, f1, s1, t1, f2, s2, t2, tb, f3, s3, t3, nu, ln, sp, ls, g, ta, pl, pf, ps, pt, fi, hz, ks, tz, ra, rf, rt, la, lb, lc, mp, mv, mk, mo, my, mw, ma, ml, ak, dy, br, ad, dp, lm, rs, len, rfl, hAR'⟩ := hA'
    exact hP1 _ _ (hK _ (isA.mk hOS' hAR'))
def f_stand (S : St) (p q u v x : Int) : Int × St := if 0 ≤ p ∧ p ≤ 15 ∧ 0 ≤ q ∧ q ≤ 15 ∧ p ≠ q ∧ 0 ≤ u ∧ u ≤ v ∧ v ≤ 999 ∧ 0 ≤ x ∧ x ≤ 9999 then f_add S 2 (fun i => [p, q, u, v, x].getD i 0) else (-1, S)
set_option maxRecDepth 20000 in
theorem v_stand (l : Launch) : z_V l 86 (sp5 40 f_stand) := by
  refine z_V.ofP (by decide +kernel) ?_
  rintro as σ K Post ⟨S, ⟨hOS, f, s, t, f1, s1, t1, f2, s2, t2, tb, f3, s3, t3, nu, ln, sp, ls, g, ta, pl, pf, ps, pt, fi, hz, ks, tz, ra, rf, rt, la, lb, lc, mp, mv, mk, mo, my, mw, ma, ml, ak, dy, br, ad, dp, lm, rs, len, rfl, hAR⟩, p, q, u, v, x, rfl, ⟨p1, p2⟩, ⟨q1, q2⟩, ⟨u1, u2⟩, ⟨v1, v2⟩, ⟨x1, x2⟩, hK⟩ hP1 hP0
  obtain ⟨hR, ⟨fq, rfl, hPR⟩, rfl, rfl, a5, a6, rfl, a8⟩ := id hAR
  have hO := hOS.1
  have hx4 := hO.2.2.2.2.2.2.2.2.2 4 (by omega)
  rw [x_4] at hx4
  have hx5 := hO.2.2.2.2.2.2.2.2.2 5 (by omega)
  rw [x_5] at hx5
  unfold f_stand at hK
  have fail : Unit → ¬ (0 ≤ p ∧ p ≤ 15 ∧ 0 ≤ q ∧ q ≤ 15 ∧ p ≠ q ∧ 0 ≤ u ∧ u ≤ v ∧ v ≤ 999 ∧ 0 ≤ x ∧ x ≤ 9999) → Post (some (.int (iI (-1)))) (wA f s t f1 s1 t1 f2 s2 t2 tb f3 s3 t3 nu ln sp ls g ta pl pf ps pt (iI fq) (iI S.2.1.length) (iI (kmask S.2.2.1 : Nat)) (iI S.2.2.2.1) ra rf rt la lb lc mp mv mk mo my mw ma ml ak dy br ad dp lm rs len) := by
    intro _ hn; rw [if_neg hn] at hK; exact hP1 _ _ (hK _ (isA.mk hOS hAR))
  refine AW.go (bs := b_Appr_stand) [] 60 t_Appr_stand ?_
  refine ⟨_, v_isPerson l, by decide, rfl, p, rfl, ⟨p1, p2⟩, ?_⟩
  refine And.intro (fun h => ?_) (fun h => ?_)
  · rw [zc_beq, decide_eq_false_iff_not] at h; exact fail () (by omega)
  rw [zc_beq, decide_eq_false_iff_not, Classical.not_not] at h
  refine ⟨_, v_isPerson l, by decide, rfl, q, rfl, ⟨q1, q2⟩, ?_⟩
  refine And.intro (fun h => ?_) (fun h => ?_)
  · rw [zc_beq, decide_eq_false_iff_not] at h; exact fail () (by omega)
  rw [zc_beq, decide_eq_false_iff_not, Classical.not_not] at h
  refine And.intro (fun h => ?_) (fun h => ?_)
  · rw [zc_eq p1 p2 q1 q2] at h; exact fail () (by omega)
  rw [zc_eq p1 p2 q1 q2] at h
  refine ⟨_, v_areDays l, by decide, rfl, u, v, rfl, ⟨u1, u2⟩, ⟨v1, v2⟩, ?_⟩
  refine And.intro (fun h => ?_) (fun h => ?_)
  · rw [zc_beq, dys, decide_eq_false_iff_not] at h; exact fail () (by omega)
  rw [zc_beq, dys, decide_eq_false_iff_not, Classical.not_not] at h
  refine ⟨_, v_isLimit l, by decide, rfl, x, rfl, ⟨x1, x2⟩, ?_⟩
  refine And.symm (And.intro (fun h => ?_) (fun h => ?_))
  · rw [zc_bne, decide_eq_true_eq] at h; exact fail () (by omega)
  rw [zc_bne, decide_eq_true_eq] at h
  rw [if_pos (by omega)] at hK
  show ∃ sp : Sp, _
  refine callA (fun _ => rfl) (v_addEntry l) (by decide) rfl ⟨S, isA.mk hOS hAR, 2, p, q, u, v, x, rfl, by omega, ?_, fun σ' hA' => kkA isW hA'.w ?_⟩
  · show 0 ≤ p ∧ p < 16 ∧ 0 ≤ q ∧ q < 16 ∧ p ≠ q ∧ 0 ≤ u ∧ u ≤ v ∧ v ≤ 999 ∧ 0 ≤ x ∧ x ≤ 9999
    omega
  · obtain ⟨hOS', f, s, t, f1, s1, t1, f2, s2, t2, tb, f3, s3, t3, nu, ln, sp, ls, g, ta, pl, pf, ps, pt, fi, hz, ks, tz, ra, rf, rt, la, lb, lc, mp, mv, mk, mo, my, mw, ma, ml, ak, dy, br, ad, dp, lm, rs, len, rfl, hAR'⟩ := hA'
    exact hP1 _ _ (hK _ (isA.mk hOS' hAR'))
