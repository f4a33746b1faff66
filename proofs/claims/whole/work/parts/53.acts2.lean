def f_foe (S : St) (p v : Int) : Int × St := if 0 ≤ p ∧ p ≤ 15 ∧ 0 ≤ v ∧ v ≤ 9 then (if (foeM S.1 v (S.1.1 3)).testBit p.toNat then (-2, S) else f_add S 3 (fun i => [p, v, 0, 0, 0].getD i 0)) else (-1, S)
set_option maxRecDepth 20000 in
theorem v_foe (l : Launch) : z_V l 87 (sp2 40 f_foe) := by
  refine z_V.ofP (by decide +kernel) ?_
  rintro as σ K Post ⟨S, ⟨hOS, f, s, t, f1, s1, t1, f2, s2, t2, tb, f3, s3, t3, nu, ln, sp, ls, g, ta, pl, pf, ps, pt, fi, hz, ks, tz, ra, rf, rt, la, lb, lc, mp, mv, mk, mo, my, mw, ma, ml, ak, dy, br, ad, dp, lm, rs, len, rfl, hAR⟩, p, v, rfl, ⟨p1, p2⟩, ⟨v1, v2⟩, hK⟩ hP1 hP0
  obtain ⟨hR, ⟨fq, rfl, hPR⟩, rfl, rfl, a5, a6, rfl, a8⟩ := id hAR
  have hO := hOS.1
  have hx4 := hO.2.2.2.2.2.2.2.2.2 4 (by omega)
  rw [x_4] at hx4
  have hx5 := hO.2.2.2.2.2.2.2.2.2 5 (by omega)
  rw [x_5] at hx5
  unfold f_foe at hK
  have fail : Unit → ¬ (0 ≤ p ∧ p ≤ 15 ∧ 0 ≤ v ∧ v ≤ 9) → Post (some (.int (iI (-1)))) (wA f s t f1 s1 t1 f2 s2 t2 tb f3 s3 t3 nu ln sp ls g ta pl pf ps pt (iI fq) (iI S.2.1.length) (iI (kmask S.2.2.1 : Nat)) (iI S.2.2.2.1) ra rf rt la lb lc mp mv mk mo my mw ma ml ak dy br ad dp lm rs len) := by
    intro _ hn; rw [if_neg hn] at hK; exact hP1 _ _ (hK _ (isA.mk hOS hAR))
  refine AW.go (bs := b_Appr_foe) [] 60 t_Appr_foe ?_
  refine ⟨_, v_isPerson l, by decide, rfl, p, rfl, ⟨p1, p2⟩, ?_⟩
  refine And.intro (fun h => ?_) (fun h => ?_)
  · rw [zc_beq, decide_eq_false_iff_not] at h; exact fail () (by omega)
  rw [zc_beq, decide_eq_false_iff_not, Classical.not_not] at h
  refine And.intro (fun h => ?_) (fun h => ?_)
  · rw [zc_lt0 v1 v2] at h; exact fail () (by omega)
  rw [zc_lt0 v1 v2] at h
  refine And.symm (And.intro (fun h => ?_) (fun h => ?_))
  · rw [zn_i, zc_lt v1 v2 (by omega) (by omega)] at h; exact fail () (by omega)
  rw [zn_i, zc_lt v1 v2 (by omega) (by omega)] at h
  rw [if_pos (by omega)] at hK
  have hfl := foeM_lt hO (v := v) (n := S.1.1 3) (Nat.le_refl _)
  obtain ⟨j, rfl⟩ : ∃ j : Nat, p = (j : Int) := ⟨p.toNat, by omega⟩
  rw [Int.toNat_natCast] at hK
  refine ⟨_, v_foeBits l, by decide, f, s, t, rfl, S.1, v, rfl, hR, hO, ⟨v1, v2⟩, ?_⟩
  refine ⟨_, v_isIn l, by decide, rfl, foeM S.1 v (S.1.1 3), j, rfl, by omega, by omega, ?_⟩
  refine And.symm (And.intro (fun h => ?_) (fun h => ?_))
  · rw [zc_beq, Bool.not_eq_false] at h
    rw [if_pos h] at hK
    exact hP1 _ _ (hK _ (isA.mk hOS hAR))
  · rw [zc_beq] at h
    rw [if_neg (by rw [h]; decide)] at hK
    show ∃ sp : Sp, _
    refine callA (fun _ => rfl) (v_addEntry l) (by decide) rfl ⟨S, isA.mk hOS hAR, 3, j, v, 0, 0, 0, rfl, by omega, ?_, fun σ' hA' => kkA isW hA'.w ?_⟩
    · show 0 ≤ (j : Int) ∧ (j : Int) < 16 ∧ 0 ≤ v ∧ v < 10
      omega
    · obtain ⟨hOS', f, s, t, f1, s1, t1, f2, s2, t2, tb, f3, s3, t3, nu, ln, sp, ls, g, ta, pl, pf, ps, pt, fi, hz, ks, tz, ra, rf, rt, la, lb, lc, mp, mv, mk, mo, my, mw, ma, ml, ak, dy, br, ad, dp, lm, rs, len, rfl, hAR'⟩ := hA'
      exact hP1 _ _ (hK _ (isA.mk hOS' hAR'))
def f_drop (S : St) (d k : Int) : Int × St := if 0 ≤ d ∧ d ≤ 3 ∧ 0 ≤ k ∧ k < S.1.1 d.toNat then ((S.1.1 d.toNat : Int) - 1, act S (oDel S.1 d.toNat k.toNat)) else (-1, S)
set_option maxRecDepth 20000 in
theorem v_drop (l : Launch) : z_V l 88 (sp2 40 f_drop) := by
  refine z_V.ofP (by decide +kernel) ?_
  rintro as σ K Post ⟨S, ⟨hOS, f, s, t, f1, s1, t1, f2, s2, t2, tb, f3, s3, t3, nu, ln, sp, ls, g, ta, pl, pf, ps, pt, fi, hz, ks, tz, ra, rf, rt, la, lb, lc, mp, mv, mk, mo, my, mw, ma, ml, ak, dy, br, ad, dp, lm, rs, len, rfl, hAR⟩, d, k, rfl, ⟨d1, d2⟩, ⟨k1, k2⟩, hK⟩ hP1 hP0
  obtain ⟨hR, ⟨fq, rfl, hPR⟩, rfl, rfl, a5, a6, rfl, a8⟩ := id hAR
  have hO := hOS.1
  have hx4 := hO.2.2.2.2.2.2.2.2.2 4 (by omega)
  rw [x_4] at hx4
  have hx5 := hO.2.2.2.2.2.2.2.2.2 5 (by omega)
  rw [x_5] at hx5
  unfold f_drop at hK
  have fail : Unit → ¬ (0 ≤ d ∧ d ≤ 3 ∧ 0 ≤ k ∧ k < S.1.1 d.toNat) → Post (some (.int (iI (-1)))) (wA f s t f1 s1 t1 f2 s2 t2 tb f3 s3 t3 nu ln sp ls g ta pl pf ps pt (iI fq) (iI S.2.1.length) (iI (kmask S.2.2.1 : Nat)) (iI S.2.2.2.1) ra rf rt la lb lc mp mv mk mo my mw ma ml ak dy br ad dp lm rs len) := by
    intro _ hn; rw [if_neg hn] at hK; exact hP1 _ _ (hK _ (isA.mk hOS hAR))
  refine AW.go (bs := b_Appr_drop) [] 60 t_Appr_drop ?_
  refine ⟨_, v_isEntryKind l, by decide, rfl, d, rfl, ⟨d1, d2⟩, ?_⟩
  refine And.intro (fun h => ?_) (fun h => ?_)
  · rw [zc_beq, decide_eq_false_iff_not] at h; exact fail () (by omega)
  rw [zc_beq, decide_eq_false_iff_not, Classical.not_not] at h
  obtain ⟨e, rfl⟩ : ∃ e : Nat, d = (e : Int) := ⟨d.toNat, by omega⟩
  rw [Int.toNat_natCast] at fail hK
  refine ⟨_, v_has l, by decide, f, s, t, rfl, S.1, e, k, rfl, hR, by omega, ⟨k1, k2⟩, ?_⟩
  refine And.symm (And.intro (fun h => ?_) (fun h => ?_))
  · rw [zc_bne, decide_eq_true_eq] at h; exact fail () (by omega)
  rw [zc_bne, decide_eq_true_eq] at h
  obtain ⟨i, rfl⟩ : ∃ i : Nat, k = (i : Int) := ⟨k.toNat, by omega⟩
  rw [Int.toNat_natCast, if_pos (by omega)] at hK
  refine ⟨_, v_remember l, by decide, pf, ps, pt, fq, S.2.1, f, s, t, S.1, rfl, rfl, hR, hPR, fun pf' ps' pt' q' hPR' => ?_⟩
  refine ⟨_, v_removeRow l, by decide, f, s, t, rfl, S.1, e, i, rfl, hR, by omega, by omega, fun f' s' hR' => ?_⟩
  refine And.intro (zN_in (by omega) (by omega)) ?_
  show Post _ _
  rw [zN_cl (by omega), hR'.size e (by omega)]
  have e1 : (oDel S.1 e i).1 e = S.1.1 e - 1 := by show (if e = e then _ else _) = _; rw [if_pos rfl]
  rw [e1, show ((S.1.1 e - 1 : Nat) : Int) = (S.1.1 e : Int) - 1 by omega]
  exact hP1 _ _ (hK _ (isA.mk (act_ok hOS (oDel_ok hO (by omega) (by omega))) (hAR.act hR' hPR')))
def f_limit (S : St) (o k x : Int) : Int × St := if 0 ≤ o ∧ o < S.1.1 4 ∧ 0 ≤ k ∧ k ≤ 2 ∧ 0 ≤ x ∧ x ≤ 9999 then (if S.1.2.1 4 o.toNat (1 + k.toNat) = x then (-2, S) else (S.1.2.1 4 o.toNat (1 + k.toNat), act S (oPut S.1 4 o.toNat (1 + k.toNat) x))) else (-1, S)
set_option maxRecDepth 20000 in
theorem v_limit (l : Launch) : z_V l 89 (sp3 40 f_limit) := by
  refine z_V.ofP (by decide +kernel) ?_
  rintro as σ K Post ⟨S, ⟨hOS, f, s, t, f1, s1, t1, f2, s2, t2, tb, f3, s3, t3, nu, ln, sp, ls, g, ta, pl, pf, ps, pt, fi, hz, ks, tz, ra, rf, rt, la, lb, lc, mp, mv, mk, mo, my, mw, ma, ml, ak, dy, br, ad, dp, lm, rs, len, rfl, hAR⟩, o, k, x, rfl, ⟨o1, o2⟩, ⟨k1, k2⟩, ⟨x1, x2⟩, hK⟩ hP1 hP0
  obtain ⟨hR, ⟨fq, rfl, hPR⟩, rfl, rfl, a5, a6, rfl, a8⟩ := id hAR
  have hO := hOS.1
  have hx4 := hO.2.2.2.2.2.2.2.2.2 4 (by omega)
  rw [x_4] at hx4
  have hx5 := hO.2.2.2.2.2.2.2.2.2 5 (by omega)
  rw [x_5] at hx5
  unfold f_limit at hK
  have fail : Unit → ¬ (0 ≤ o ∧ o < S.1.1 4 ∧ 0 ≤ k ∧ k ≤ 2 ∧ 0 ≤ x ∧ x ≤ 9999) → Post (some (.int (iI (-1)))) (wA f s t f1 s1 t1 f2 s2 t2 tb f3 s3 t3 nu ln sp ls g ta pl pf ps pt (iI fq) (iI S.2.1.length) (iI (kmask S.2.2.1 : Nat)) (iI S.2.2.2.1) ra rf rt la lb lc mp mv mk mo my mw ma ml ak dy br ad dp lm rs len) := by
    intro _ hn; rw [if_neg hn] at hK; exact hP1 _ _ (hK _ (isA.mk hOS hAR))
  refine AW.go (bs := b_Appr_limit) [] 60 t_Appr_limit ?_
  refine ⟨_, v_has l, by decide, f, s, t, rfl, S.1, 4, o, rfl, hR, by omega, ⟨o1, o2⟩, ?_⟩
  refine And.intro (fun h => ?_) (fun h => ?_)
  · rw [zc_beq, decide_eq_false_iff_not] at h; exact fail () (by omega)
  rw [zc_beq, decide_eq_false_iff_not, Classical.not_not] at h
  refine ⟨_, v_isKind l, by decide, rfl, k, rfl, ⟨k1, k2⟩, ?_⟩
  refine And.intro (fun h => ?_) (fun h => ?_)
  · rw [zc_beq, decide_eq_false_iff_not] at h; exact fail () (by omega)
  rw [zc_beq, decide_eq_false_iff_not, Classical.not_not] at h
  refine ⟨_, v_isLimit l, by decide, rfl, x, rfl, ⟨x1, x2⟩, ?_⟩
  refine And.symm (And.intro (fun h => ?_) (fun h => ?_))
  · rw [zc_bne, decide_eq_true_eq] at h; exact fail () (by omega)
  rw [zc_bne, decide_eq_true_eq] at h
  rw [if_pos (by omega)] at hK
  obtain ⟨p, rfl⟩ : ∃ p : Nat, o = (p : Int) := ⟨o.toNat, by omega⟩
  obtain ⟨j, rfl⟩ : ∃ j : Nat, k = (j : Int) := ⟨k.toNat, by omega⟩
  rw [Int.toNat_natCast, Int.toNat_natCast] at hK
  have hp : p < S.1.1 4 := by omega
  have hc := hO.cell (d := 4) (c := 1 + j) (by omega) hp (by rw [w_4]; omega)
  have ek : z_nn 1 0 + iI (j : Int) = iI ((1 + j : Nat) : Int) := by rw [zn_i, iI_add]; congr 1
  refine ⟨_, v_cellE l, by decide, f, s, t, rfl, S.1, 4, p, 1 + j, _, _, _, rfl, rfl, rfl, ek, hR, by omega, hp, by rw [w_4]; omega, ?_⟩
  refine And.symm (And.intro (fun h => ?_) (fun h => ?_))
  · rw [zc_ne (by omega) (by omega) x1 x2, Classical.not_not] at h
    rw [if_pos h] at hK
    exact hP1 _ _ (hK _ (isA.mk hOS hAR))
  · rw [zc_ne (by omega) (by omega) x1 x2] at h
    rw [if_neg h] at hK
    refine ⟨_, v_remember l, by decide, pf, ps, pt, fq, S.2.1, f, s, t, S.1, rfl, rfl, hR, hPR, fun pf' ps' pt' q' hPR' => ?_⟩
    show ∃ sp : Sp, _
    rw [ek]
    refine ⟨_, v_put l, by decide, f, s, t, rfl, 4, p, 1 + j, _, rfl, by omega, by rw [x_4]; omega, by rw [w_4]; omega, ?_⟩
    refine hP1 _ _ (hK _ (isA.mk (act_ok hOS (oPut_ok hO ?_)) (hAR.act (hR.put (by omega) hp (by rw [w_4]; omega) x) hPR')))
    have h4 := hO.2.2.2.2.1 p hp
    refine ⟨?_, fun c c1 c2 => ?_⟩
    · show (if 0 = 1 + j then x else S.1.2.1 4 p 0) = -2 ∨ (0 ≤ (if 0 = 1 + j then x else S.1.2.1 4 p 0) ∧ (if 0 = 1 + j then x else S.1.2.1 4 p 0) < (p : Int))
      rw [if_neg (by omega)]; exact h4.1
    · show 0 ≤ (if c = 1 + j then x else S.1.2.1 4 p c) ∧ (if c = 1 + j then x else S.1.2.1 4 p c) ≤ 9999
      split
      · omega
      · exact h4.2 c c1 c2
def hiS (w : Int) : Int := if w = 0 then 99 else if w = 1 then 9 else 30
def f_set (S : St) (w v : Int) : Int × St := if 0 ≤ w ∧ w ≤ 2 ∧ 0 ≤ v ∧ v ≤ hiS w then (if (S.1.2.2 w.toNat : Int) = v then (-2, S) else ((S.1.2.2 w.toNat : Int), act S (oSet S.1 w.toNat v.toNat))) else (-1, S)
theorem RS.set {f s t : Nat → Int32} {M : Od} (h : RS f s t M) (w v : Nat) : RS f s (upd t w (iI v)) (oSet M w v) := by
  refine ⟨h.1, h.2.1, fun x hx => ?_⟩
  show upd t w (iI v) x = iI ((if x = w then v else M.2.2 x : Nat) : Int)
  unfold upd
  split
  · rfl
  · exact h.2.2 x hx
set_option maxRecDepth 20000 in
theorem v_set (l : Launch) : z_V l 90 (sp2 40 f_set) := by
  refine z_V.ofP (by decide +kernel) ?_
  rintro as σ K Post ⟨S, ⟨hOS, f, s, t, f1, s1, t1, f2, s2, t2, tb, f3, s3, t3, nu, ln, sp, ls, g, ta, pl, pf, ps, pt, fi, hz, ks, tz, ra, rf, rt, la, lb, lc, mp, mv, mk, mo, my, mw, ma, ml, ak, dy, br, ad, dp, lm, rs, len, rfl, hAR⟩, w, v, rfl, ⟨w1, w2⟩, ⟨v1, v2⟩, hK⟩ hP1 hP0
  obtain ⟨hR, ⟨fq, rfl, hPR⟩, rfl, rfl, a5, a6, rfl, a8⟩ := id hAR
  have hO := hOS.1
  have hx4 := hO.2.2.2.2.2.2.2.2.2 4 (by omega)
  rw [x_4] at hx4
  have hx5 := hO.2.2.2.2.2.2.2.2.2 5 (by omega)
  rw [x_5] at hx5
  unfold f_set at hK
  have fail : Unit → ¬ (0 ≤ w ∧ w ≤ 2 ∧ 0 ≤ v ∧ v ≤ hiS w) → Post (some (.int (iI (-1)))) (wA f s t f1 s1 t1 f2 s2 t2 tb f3 s3 t3 nu ln sp ls g ta pl pf ps pt (iI fq) (iI S.2.1.length) (iI (kmask S.2.2.1 : Nat)) (iI S.2.2.2.1) ra rf rt la lb lc mp mv mk mo my mw ma ml ak dy br ad dp lm rs len) := by
    intro _ hn; rw [if_neg hn] at hK; exact hP1 _ _ (hK _ (isA.mk hOS hAR))
  have b0 := hO.2.2.2.2.2.2.1
  have b1 := hO.2.2.2.2.2.2.2.1
  have b2 := hO.2.2.2.2.2.2.2.2.1
  refine AW.go (bs := b_Appr_set) [] 60 t_Appr_set ?_
  refine And.intro (fun h => ?_) (fun h => ?_)
  · rw [zc_lt0 w1 w2] at h; exact fail () (by omega)
  rw [zc_lt0 w1 w2] at h
  refine And.intro (fun h => ?_) (fun h => ?_)
  · rw [zn_i, zc_ge w1 w2 (by omega) (by omega)] at h; exact fail () (by omega)
  rw [zn_i, zc_ge w1 w2 (by omega) (by omega)] at h
  refine And.intro (fun h => ?_) (fun h => ?_)
  · rw [zc_lt0 v1 v2] at h; exact fail () (by omega)
  rw [zc_lt0 v1 v2] at h
  obtain ⟨j, rfl⟩ : ∃ j : Nat, w = (j : Int) := ⟨w.toNat, by omega⟩
  have hj : j < 3 := by omega
  have hi : nI ([99, 9, 30].getD (iI (j : Int)).toNatClampNeg 0) = iI (hiS j) := by
    rw [zN_cl (by omega)]
    have : j = 0 ∨ j = 1 ∨ j = 2 := by omega
    rcases this with rfl | rfl | rfl <;> rfl
  have hir : 0 ≤ hiS j ∧ hiS j ≤ 99 := by unfold hiS; split <;> (try split) <;> omega
  refine And.intro (zN_in hj (by omega)) ?_
  show _ ∧ _
  rw [hi]
  refine And.symm (And.intro (fun h => ?_) (fun h => ?_))
  · rw [zc_le v1 v2 (by omega) (by omega)] at h; exact fail () (by omega)
  rw [zc_le v1 v2 (by omega) (by omega)] at h
  rw [if_pos (by omega), Int.toNat_natCast] at hK
  refine And.intro (zN_in hj (by omega)) ?_
  have hs : S.1.2.2 j ≤ 99 := by
    have : j = 0 ∨ j = 1 ∨ j = 2 := by omega
    rcases this with rfl | rfl | rfl <;> omega
  show _ ∧ _
  rw [zN_cl (by omega), hR.2.2 j hj]
  refine And.symm (And.intro (fun h => ?_) (fun h => ?_))
  · rw [zc_ne (by omega) (by omega) v1 v2, Classical.not_not] at h
    rw [if_pos h] at hK
    exact hP1 _ _ (hK _ (isA.mk hOS hAR))
  · rw [zc_ne (by omega) (by omega) v1 v2] at h
    rw [if_neg h] at hK
    refine ⟨_, v_remember l, by decide, pf, ps, pt, fq, S.2.1, f, s, t, S.1, rfl, rfl, hR, hPR, fun pf' ps' pt' q' hPR' => ?_⟩
    refine And.intro (zN_in hj (by omega)) ?_
    show Post _ _
    rw [zN_cl (by omega)]
    obtain ⟨x, rfl⟩ : ∃ x : Nat, v = (x : Int) := ⟨v.toNat, by omega⟩
    rw [Int.toNat_natCast] at hK
    refine hP1 _ _ (hK _ (isA.mk (act_ok hOS (oSet_ok hO ?_)) (hAR.act (hR.set j x) hPR')))
    have hv : (x : Int) ≤ hiS j := by assumption
    refine ⟨fun e => ?_, fun e => ?_, fun e => ?_⟩
    · rw [e] at hv; have : hiS ((0 : Nat) : Int) = 99 := rfl; omega
    · rw [e] at hv; have : hiS ((1 : Nat) : Int) = 9 := rfl; omega
    · rw [e] at hv; have : hiS ((2 : Nat) : Int) = 30 := rfl; omega
def f_undo (S : St) : Int × St := match S.2.1.getLast? with
  | none => (-1, S)
  | some M => ((S.2.1.length : Int) - 1, (M, S.2.1.dropLast, S.2.2))
set_option maxRecDepth 20000 in
theorem v_undo (l : Launch) : z_V l 91 (sp0S 40 f_undo) := by
  refine z_V.ofP (by decide +kernel) ?_
  rintro as σ K Post ⟨S, ⟨hOS, f, s, t, f1, s1, t1, f2, s2, t2, tb, f3, s3, t3, nu, ln, sp, ls, g, ta, pl, pf, ps, pt, fi, hz, ks, tz, ra, rf, rt, la, lb, lc, mp, mv, mk, mo, my, mw, ma, ml, ak, dy, br, ad, dp, lm, rs, len, rfl, hAR⟩, rfl, hK⟩ hP1 hP0
  obtain ⟨hR, ⟨fq, rfl, hPR⟩, rfl, rfl, a5, a6, rfl, a8⟩ := id hAR
  have hO := hOS.1
  have hx4 := hO.2.2.2.2.2.2.2.2.2 4 (by omega)
  rw [x_4] at hx4
  have hx5 := hO.2.2.2.2.2.2.2.2.2 5 (by omega)
  rw [x_5] at hx5
  refine AW.go (bs := b_Appr_undo) [] 60 t_Appr_undo ?_
  refine ⟨_, v_takeBack l, by decide, pf, ps, pt, fq, S.2.1, f, s, t, rfl, rfl, hPR, fun e => ?_, fun H0 M e f' s' t' hR' hPR' => ?_⟩
  · unfold f_undo at hK
    rw [e] at hK
    exact hP1 _ _ (hK _ (isA.mk hOS hAR))
  · unfold f_undo at hK
    rw [e, List.getLast?_concat, List.dropLast_concat] at hK
    have el : (((H0 ++ [M]).length : Nat) : Int) - 1 = (H0.length : Int) := by simp
    simp only [] at hK
    rw [el] at hK
    refine hP1 _ _ (hK _ (isA.mk ⟨hOS.2.1 M (by rw [e]; simp), fun M' hM' => hOS.2.1 M' (by rw [e]; simp; exact Or.inl hM'), ?_, hOS.2.2.2⟩ ⟨hR', ⟨fq, rfl, hPR'⟩, rfl, hAR.2.2.2⟩))
    have := hOS.2.2.1
    rw [e] at this
    simp at this
    show H0.length ≤ 10
    omega
