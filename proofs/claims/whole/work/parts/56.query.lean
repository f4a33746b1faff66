/-! what is asked of the order -/
def qp (q : Od → Int → Int) : St → Int → Int × St := fun S a => (q S.1 a, S)
def qp2 (q : Od → Int → Int → Int) : St → Int → Int → Int × St := fun S a b => (q S.1 a b, S)
def qp3 (q : Od → Int → Int → Int → Int) : St → Int → Int → Int → Int × St := fun S a b c => (q S.1 a b c, S)
def qp4 (q : Od → Int → Int → Int → Int → Int) : St → Int → Int → Int → Int → Int × St := fun S a b c d => (q S.1 a b c d, S)
def qp5 (q : Od → Int → Int → Int → Int → Int → Int) : St → Int → Int → Int → Int → Int → Int × St := fun S a b c d e => (q S.1 a b c d e, S)
def q_post (M : Od) (o c : Int) : Int := if 0 ≤ o ∧ o < M.1 4 then (if 0 ≤ c ∧ c ≤ 3 then M.2.1 4 o.toNat c.toNat else if c = 4 then (upN M 12 (M.2.1 4 o.toNat 0) : Int) else if c = 5 then (cntF (fun k => decide (M.2.1 4 k 0 = (o.toNat : Int))) (M.1 4) : Int) else -1) else -1
set_option maxRecDepth 20000 in
theorem v_post (l : Launch) : z_V l 94 (sp2 40 (qp2 q_post)) := by
  refine z_V.ofP (by decide +kernel) ?_
  rintro as σ K Post ⟨S, ⟨hOS, f, s, t, f1, s1, t1, f2, s2, t2, tb, f3, s3, t3, nu, ln, sp, ls, g, ta, pl, pf, ps, pt, fi, hz, ks, tz, ra, rf, rt, la, lb, lc, mp, mv, mk, mo, my, mw, ma, ml, ak, dy, br, ad, dp, lm, rs, len, rfl, hAR⟩, o, c, rfl, ⟨o1, o2⟩, ⟨c1, c2⟩, hK⟩ hP1 hP0
  obtain ⟨hR, ⟨fq, rfl, hPR⟩, rfl, rfl, a5, a6, rfl, a8⟩ := id hAR
  have hO := hOS.1
  have hx4 := hO.2.2.2.2.2.2.2.2.2 4 (by omega)
  rw [x_4] at hx4
  have hx5 := hO.2.2.2.2.2.2.2.2.2 5 (by omega)
  rw [x_5] at hx5
  unfold qp2 q_post at hK
  simp only [] at hK
  refine AW.go (bs := b_Appr_post) [] 60 t_Appr_post ?_
  refine ⟨_, v_has l, by decide, f, s, t, rfl, S.1, 4, o, rfl, hR, by omega, ⟨o1, o2⟩, ?_⟩
  refine And.symm (And.intro (fun h => ?_) (fun h => ?_))
  · rw [zc_bne, decide_eq_true_eq] at h
    rw [if_neg h] at hK
    exact hP1 _ _ (hK _ (isA.mk hOS hAR))
  rw [zc_bne, decide_eq_true_eq] at h
  rw [if_pos h] at hK
  obtain ⟨p, rfl⟩ : ∃ p : Nat, o = (p : Int) := ⟨o.toNat, by omega⟩
  rw [Int.toNat_natCast] at hK
  have hp : p < S.1.1 4 := by omega
  have ne : ∀ x : Nat, x < 10 → (z_cond .ne (iI c) (z_nn x 0) ↔ c ≠ x) := fun x hx => by rw [zn_i]; exact zc_ne c1 c2 (by omega) (by omega)
  refine And.intro (fun h => ?_) (fun h => ?_)
  · rw [zc_lt0 c1 c2] at h
    rw [if_neg (by omega), if_neg (by omega), if_neg (by omega)] at hK
    refine And.symm (And.intro (fun h => ?_) (fun h => ?_))
    · rw [ne 4 (by omega)] at h; omega
    refine And.symm (And.intro (fun h => ?_) (fun h => ?_))
    · rw [ne 5 (by omega)] at h; omega
    exact hP1 _ _ (hK _ (isA.mk hOS hAR))
  rw [zc_lt0 c1 c2] at h
  refine And.intro (fun h => ?_) (fun h => ?_)
  · rw [zn_i, zc_ge c1 c2 (by omega) (by omega)] at h
    rw [if_neg (by omega)] at hK
    refine And.symm (And.intro (fun h => ?_) (fun h => ?_))
    · rw [ne 4 (by omega)] at h
      rw [if_pos (by omega)] at hK
      refine ⟨_, v_postsAbove l, by decide, f, s, t, rfl, S.1, p, rfl, hR, hO, hp, ?_⟩
      exact hP1 _ _ (hK _ (isA.mk hOS hAR))
    rw [ne 4 (by omega)] at h
    rw [if_neg (by omega)] at hK
    refine And.symm (And.intro (fun h => ?_) (fun h => ?_))
    · rw [ne 5 (by omega)] at h
      rw [if_pos (by omega)] at hK
      refine ⟨_, v_postsBelow l, by decide, f, s, t, rfl, S.1, p, rfl, hR, hO, hp, ?_⟩
      exact hP1 _ _ (hK _ (isA.mk hOS hAR))
    rw [ne 5 (by omega)] at h
    rw [if_neg (by omega)] at hK
    exact hP1 _ _ (hK _ (isA.mk hOS hAR))
  rw [zn_i, zc_ge c1 c2 (by omega) (by omega)] at h
  rw [if_pos (by omega)] at hK
  obtain ⟨j, rfl⟩ : ∃ j : Nat, c = (j : Int) := ⟨c.toNat, by omega⟩
  rw [Int.toNat_natCast] at hK
  refine ⟨_, v_cell l, by decide, f, s, t, rfl, S.1, 4, p, j, rfl, hR, by omega, hp, by rw [w_4]; omega, ?_⟩
  exact hP1 _ _ (hK _ (isA.mk hOS hAR))
def q_entry (M : Od) (d k c : Int) : Int := if 0 ≤ d ∧ d ≤ 3 ∧ 0 ≤ k ∧ k < M.1 d.toNat ∧ 0 ≤ c ∧ c < oW d.toNat then M.2.1 d.toNat k.toNat c.toNat else -1
set_option maxRecDepth 20000 in
theorem v_entry (l : Launch) : z_V l 95 (sp3 40 (qp3 q_entry)) := by
  refine z_V.ofP (by decide +kernel) ?_
  rintro as σ K Post ⟨S, ⟨hOS, f, s, t, f1, s1, t1, f2, s2, t2, tb, f3, s3, t3, nu, ln, sp, ls, g, ta, pl, pf, ps, pt, fi, hz, ks, tz, ra, rf, rt, la, lb, lc, mp, mv, mk, mo, my, mw, ma, ml, ak, dy, br, ad, dp, lm, rs, len, rfl, hAR⟩, d, k, c, rfl, ⟨d1, d2⟩, ⟨k1, k2⟩, ⟨c1, c2⟩, hK⟩ hP1 hP0
  obtain ⟨hR, ⟨fq, rfl, hPR⟩, rfl, rfl, a5, a6, rfl, a8⟩ := id hAR
  have hO := hOS.1
  have hx4 := hO.2.2.2.2.2.2.2.2.2 4 (by omega)
  rw [x_4] at hx4
  have hx5 := hO.2.2.2.2.2.2.2.2.2 5 (by omega)
  rw [x_5] at hx5
  unfold qp3 q_entry at hK
  simp only [] at hK
  have fail : Unit → ¬ (0 ≤ d ∧ d ≤ 3 ∧ 0 ≤ k ∧ k < S.1.1 d.toNat ∧ 0 ≤ c ∧ c < oW d.toNat) → Post (some (.int (iI (-1)))) (wA f s t f1 s1 t1 f2 s2 t2 tb f3 s3 t3 nu ln sp ls g ta pl pf ps pt (iI fq) (iI S.2.1.length) (iI (kmask S.2.2.1 : Nat)) (iI S.2.2.2.1) ra rf rt la lb lc mp mv mk mo my mw ma ml ak dy br ad dp lm rs len) := by
    intro _ hn; rw [if_neg hn] at hK; exact hP1 _ _ (hK _ (isA.mk hOS hAR))
  refine AW.go (bs := b_Appr_entry) [] 60 t_Appr_entry ?_
  refine ⟨_, v_isEntryKind l, by decide, rfl, d, rfl, ⟨d1, d2⟩, ?_⟩
  refine And.intro (fun h => ?_) (fun h => ?_)
  · rw [zc_beq, decide_eq_false_iff_not] at h; exact fail () (by omega)
  rw [zc_beq, decide_eq_false_iff_not, Classical.not_not] at h
  obtain ⟨e, rfl⟩ : ∃ e : Nat, d = (e : Int) := ⟨d.toNat, by omega⟩
  rw [Int.toNat_natCast] at fail hK
  refine ⟨_, v_has l, by decide, f, s, t, rfl, S.1, e, k, rfl, hR, by omega, ⟨k1, k2⟩, ?_⟩
  refine And.intro (fun h => ?_) (fun h => ?_)
  · rw [zc_beq, decide_eq_false_iff_not] at h; exact fail () (by omega)
  rw [zc_beq, decide_eq_false_iff_not, Classical.not_not] at h
  refine And.intro (fun h => ?_) (fun h => ?_)
  · rw [zc_lt0 c1 c2] at h; exact fail () (by omega)
  rw [zc_lt0 c1 c2] at h
  refine And.intro (zN_in (by show e < 6; omega) (by omega)) ?_
  have ew : nI ([4, 3, 5, 2, 4, 7].getD (iI (e : Int)).toNatClampNeg 0) = iI ((oW e : Nat) : Int) := z_tab _ (by omega)
  have hw7 : oW e ≤ 7 := by
    have key : ∀ d, d < 6 → oW d ≤ 7 := by decide +kernel
    exact key e (by omega)
  show _ ∧ _
  rw [ew]
  refine And.symm (And.intro (fun h => ?_) (fun h => ?_))
  · rw [zc_lt c1 c2 (by omega) (by omega)] at h; exact fail () (by omega)
  rw [zc_lt c1 c2 (by omega) (by omega)] at h
  rw [if_pos (by omega)] at hK
  obtain ⟨i, rfl⟩ : ∃ i : Nat, k = (i : Int) := ⟨k.toNat, by omega⟩
  obtain ⟨j, rfl⟩ : ∃ j : Nat, c = (j : Int) := ⟨c.toNat, by omega⟩
  rw [Int.toNat_natCast, Int.toNat_natCast] at hK
  refine ⟨_, v_cell l, by decide, f, s, t, rfl, S.1, e, i, j, rfl, hR, by omega, by omega, by omega, ?_⟩
  exact hP1 _ _ (hK _ (isA.mk hOS hAR))
noncomputable def q_joined (M : Od) (r : Int) : Int := if 0 ≤ r ∧ r < M.1 5 then (jm M r.toNat (M.2.1 5 r.toNat 5) : Int) else -1
def sp_joined : Sp := spA 36 (fun S as K => ∃ r : Int, as = [.ref 0, .int (iI r)] ∧ ir r ∧ K (some (.long (lI (q_joined S.1 r)))) S)
set_option maxRecDepth 20000 in
theorem v_joined (l : Launch) : z_V l 97 sp_joined := by
  refine z_V.ofP (by decide +kernel) ?_
  rintro as σ K Post ⟨S, ⟨hOS, f, s, t, f1, s1, t1, f2, s2, t2, tb, f3, s3, t3, nu, ln, sp, ls, g, ta, pl, pf, ps, pt, fi, hz, ks, tz, ra, rf, rt, la, lb, lc, mp, mv, mk, mo, my, mw, ma, ml, ak, dy, br, ad, dp, lm, rs, len, rfl, hAR⟩, r, rfl, ⟨r1, r2⟩, hK⟩ hP1 hP0
  obtain ⟨hR, ⟨fq, rfl, hPR⟩, rfl, rfl, a5, a6, rfl, a8⟩ := id hAR
  have hO := hOS.1
  have hx4 := hO.2.2.2.2.2.2.2.2.2 4 (by omega)
  rw [x_4] at hx4
  have hx5 := hO.2.2.2.2.2.2.2.2.2 5 (by omega)
  rw [x_5] at hx5
  unfold q_joined at hK
  refine AW.go (bs := b_Appr_joined) [] 60 t_Appr_joined ?_
  refine ⟨_, v_has l, by decide, f, s, t, rfl, S.1, 5, r, rfl, hR, by omega, ⟨r1, r2⟩, ?_⟩
  refine And.symm (And.intro (fun h => ?_) (fun h => ?_))
  · rw [zc_bne, decide_eq_true_eq] at h
    rw [if_neg h] at hK
    exact hP1 _ _ (hK _ (isA.mk hOS hAR))
  rw [zc_bne, decide_eq_true_eq] at h
  rw [if_pos h] at hK
  obtain ⟨k, rfl⟩ : ∃ k : Nat, r = (k : Int) := ⟨r.toNat, by omega⟩
  rw [Int.toNat_natCast] at hK
  have hr : k < S.1.1 5 := by omega
  have hc := hO.2.2.2.2.2.1 k hr
  refine ⟨_, v_cell l, by decide, f, s, t, rfl, S.1, 5, k, 5, rfl, hR, by omega, hr, by decide, ?_⟩
  refine ⟨_, v_joinedBits l, by decide, f, s, t, rfl, S.1, k, S.1.2.1 5 k 5, rfl, hR, hO, hr, by omega, by omega, ?_⟩
  show Post _ _
  rw [lI_lN]
  exact hP1 _ _ (hK _ (isA.mk hOS hAR))
noncomputable def q_asked (M : Od) (r c : Int) : Int := if 0 ≤ r ∧ r < M.1 5 then (if 0 ≤ c ∧ c ≤ 6 then M.2.1 5 r.toNat c.toNat else if c = 7 then wq M r.toNat else if c = 8 then (cntF (jm M r.toNat (M.2.1 5 r.toNat 5)).testBit 62 : Int) else -1) else -1
set_option maxRecDepth 20000 in
theorem v_asked (l : Launch) : z_V l 96 (sp2 40 (qp2 q_asked)) := by
  refine z_V.ofP (by decide +kernel) ?_
  rintro as σ K Post ⟨S, hA, r, c, rfl, ⟨r1, r2⟩, ⟨c1, c2⟩, hK⟩ hP1 hP0
  have hA0 := hA
  obtain ⟨hOS, f, s, t, f1, s1, t1, f2, s2, t2, tb, f3, s3, t3, nu, ln, sp, ls, g, ta, pl, pf, ps, pt, fi, hz, ks, tz, ra, rf, rt, la, lb, lc, mp, mv, mk, mo, my, mw, ma, ml, ak, dy, br, ad, dp, lm, rs, len, rfl, hAR⟩ := hA
  obtain ⟨hR, ⟨fq, rfl, hPR⟩, rfl, rfl, a5, a6, rfl, a8⟩ := id hAR
  have hO := hOS.1
  have hx4 := hO.2.2.2.2.2.2.2.2.2 4 (by omega)
  rw [x_4] at hx4
  have hx5 := hO.2.2.2.2.2.2.2.2.2 5 (by omega)
  rw [x_5] at hx5
  unfold qp2 q_asked at hK
  simp only [] at hK
  have ne : ∀ x : Nat, x < 10 → (z_cond .ne (iI c) (z_nn x 0) ↔ c ≠ x) := fun x hx => by rw [zn_i]; exact zc_ne c1 c2 (by omega) (by omega)
  refine AW.go (bs := b_Appr_asked) [] 60 t_Appr_asked ?_
  refine ⟨_, v_has l, by decide, f, s, t, rfl, S.1, 5, r, rfl, hR, by omega, ⟨r1, r2⟩, ?_⟩
  refine And.symm (And.intro (fun h => ?_) (fun h => ?_))
  · rw [zc_bne, decide_eq_true_eq] at h
    rw [if_neg h] at hK
    exact hP1 _ _ (hK _ (isA.mk hOS hAR))
  rw [zc_bne, decide_eq_true_eq] at h
  rw [if_pos h] at hK
  obtain ⟨k, rfl⟩ : ∃ k : Nat, r = (k : Int) := ⟨r.toNat, by omega⟩
  rw [Int.toNat_natCast] at hK
  have hr : k < S.1.1 5 := by omega
  have hc := hO.2.2.2.2.2.1 k hr
  refine And.intro (fun h => ?_) (fun h => ?_)
  · rw [zc_lt0 c1 c2] at h
    rw [if_neg (by omega), if_neg (by omega), if_neg (by omega)] at hK
    refine And.symm (And.intro (fun h => ?_) (fun h => ?_))
    · rw [ne 7 (by omega)] at h; omega
    refine And.symm (And.intro (fun h => ?_) (fun h => ?_))
    · rw [ne 8 (by omega)] at h; omega
    exact hP1 _ _ (hK _ (isA.mk hOS hAR))
  rw [zc_lt0 c1 c2] at h
  refine And.intro (fun h => ?_) (fun h => ?_)
  · rw [zn_i, zc_gt c1 c2 (by omega) (by omega)] at h
    rw [if_neg (by omega)] at hK
    refine And.symm (And.intro (fun h => ?_) (fun h => ?_))
    · rw [ne 7 (by omega)] at h
      rw [if_pos (by omega)] at hK
      refine ⟨_, v_cell l, by decide, f, s, t, rfl, S.1, 5, k, 5, rfl, hR, by omega, hr, by decide, ?_⟩
      show ∃ sp : Sp, _
      refine callA (fun _ => rfl) (v_wholeOn l) (by decide) rfl ⟨_, _, _, _, _, _, _, _, _, _, _, _, _, _, _, _, _, _, _, _, _, _, _, _, _, _, _, _, _, _, _, _, _, _, _, _, _, _, _, _, _, _, _, _, _, _, _, _, _, S.1, k, S.1.2.1 5 k 5, rfl, rfl, hR, hO, hr, by omega, by omega, ?_⟩
      exact hP1 _ _ (hK _ (isA.mk hOS hAR))
    rw [ne 7 (by omega)] at h
    rw [if_neg (by omega)] at hK
    refine And.symm (And.intro (fun h => ?_) (fun h => ?_))
    · rw [ne 8 (by omega)] at h
      rw [if_pos (by omega)] at hK
      show ∃ sp : Sp, _
      refine callA (fun _ => rfl) (v_joined l) (by decide) rfl ⟨S, hA0, k, rfl, ⟨by omega, by omega⟩, fun σ' hA' => kkL isW hA'.w ?_⟩
      clear hA0 hAR hOS
      obtain ⟨hOS, f, s, t, f1, s1, t1, f2, s2, t2, tb, f3, s3, t3, nu, ln, sp, ls, g, ta, pl, pf, ps, pt, fi, hz, ks, tz, ra, rf, rt, la, lb, lc, mp, mv, mk, mo, my, mw, ma, ml, ak, dy, br, ad, dp, lm, rs, len, rfl, hAR⟩ := hA'
      have ej : lI (q_joined S.1 k) = lN (jm S.1 k (S.1.2.1 5 k 5)) := by
        unfold q_joined; rw [if_pos (by omega), Int.toNat_natCast, lI_lN]
      show ∃ sp : Sp, _
      rw [ej]
      refine ⟨_, v_bitCount l, by decide, rfl, jm S.1 k (S.1.2.1 5 k 5), rfl, Nat.lt_of_lt_of_le (jm_lt _ _ _) (Nat.pow_le_pow_right (by decide) (by omega)), ?_⟩
      exact hP1 _ _ (hK _ (isA.mk hOS hAR))
    rw [ne 8 (by omega)] at h
    rw [if_neg (by omega)] at hK
    exact hP1 _ _ (hK _ (isA.mk hOS hAR))
  rw [zn_i, zc_gt c1 c2 (by omega) (by omega)] at h
  rw [if_pos (by omega)] at hK
  obtain ⟨j, rfl⟩ : ∃ j : Nat, c = (j : Int) := ⟨c.toNat, by omega⟩
  rw [Int.toNat_natCast] at hK
  refine ⟨_, v_cell l, by decide, f, s, t, rfl, S.1, 5, k, j, rfl, hR, by omega, hr, by rw [w_5]; omega, ?_⟩
  exact hP1 _ _ (hK _ (isA.mk hOS hAR))
