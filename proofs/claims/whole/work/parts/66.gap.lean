/-! a post's days -/
def sp_nextDay : Sp := (2, 0, 0, pA, fun as σ K => ∃ (f s t f1 s1 t1 f2 s2 t2 tb f3 s3 t3 nu ln sp ls g ta pl : Nat → Int32) (pf ps pt : Nat → Nat → Int32) (fi hz ks tz ra rf rt la lb lc mp mv mk mo my mw ma ml ak dy br ad dp lm rs len : Int32) (M : Od) (y v : Int), as = [.ref 0, .int (iI y), .int (iI v)] ∧ σ = (wA f s t f1 s1 t1 f2 s2 t2 tb f3 s3 t3 nu ln sp ls g ta pl pf ps pt fi hz ks tz ra rf rt la lb lc mp mv mk mo my mw ma ml ak dy br ad dp lm rs len) ∧ RS f s t M ∧ OKM M ∧ 0 ≤ y ∧ y ≤ 999 ∧ 0 ≤ v ∧ v ≤ 999 ∧ ∀ nx, chg M y nx → K (some (.int (iI (min (v + 1) nx)))) none)
set_option maxRecDepth 20000 in
theorem v_nextDay (l : Launch) : z_V l 139 sp_nextDay := by
  refine z_V.ofP (by decide +kernel) ?_
  rintro as σ K Post ⟨f, s, t, f1, s1, t1, f2, s2, t2, tb, f3, s3, t3, nu, ln, sp, ls, g, ta, pl, pf, ps, pt, fi, hz, ks, tz, ra, rf, rt, la, lb, lc, mp, mv, mk, mo, my, mw, ma, ml, ak, dy, br, ad, dp, lm, rs, len, M, y, v, rfl, rfl, hR, hO, y0, y1, v0, v1, hK⟩ hP1 hP0
  refine AW.go (bs := b_Appr_nextDay) [] 60 t_Appr_nextDay ?_
  refine ⟨_, v_nextChange l, by decide, f, s, t, rfl, M, y, rfl, hR, hO, y0, y1, fun nx hnx => ?_⟩
  obtain ⟨n1, n2, -⟩ := id hnx
  show Post _ _
  rw [zn_i 1, iI_add, min_iI (by omega) (by omega) (by omega) (by omega)]
  exact hP0 _ (hK nx hnx)
theorem cntF_const {P : Nat → Bool} {a : Nat} : ∀ {b : Nat}, a ≤ b → (∀ i, a ≤ i → i < b → P i = P a) → cntF P b = cntF P a + (if P a then b - a else 0)
  | 0, h, _ => by rw [show a = 0 by omega]; simp
  | b + 1, h, hc => by
    rcases Nat.lt_or_ge a (b + 1) with q | q
    · rw [cntF, cntF_const (b := b) (by omega) (fun i h1 h2 => hc i h1 (by omega)), hc b (by omega) (by omega)]
      split
      · omega
      · rfl
    · rw [show a = b + 1 by omega, Nat.sub_self]; split <;> rfl
def isM (M : Od) (o : Nat) (c : Int) (y : Int) : Bool := if c = 0 then decide (holder M o y ≠ -1) else (decF M (mtK 0) o y).isSome
theorem isM_chg {M : Od} {y y2 nx : Int} (h : chg M y nx) (h1 : y ≤ y2) (h2 : y2 < nx) (o : Nat) (c : Int) : isM M o c y2 = isM M o c y := by
  unfold isM
  rw [holder_chg h h1 h2, decF_chg h h1 h2]
def q_manned (M : Od) (o u v c : Int) : Int := if 0 ≤ o ∧ o < M.1 4 ∧ 0 ≤ u ∧ u ≤ v ∧ v ≤ 999 ∧ 0 ≤ c ∧ c ≤ 1 then (cntF (fun i => isM M o.toNat c (u + i)) (v - u + 1).toNat : Int) else -1
set_option maxRecDepth 20000 in
theorem v_manned (l : Launch) : z_V l 116 (sp4 40 (qp4 q_manned)) := by
  refine z_V.ofP (by decide +kernel) ?_
  rintro as σ K Post ⟨S, ⟨hOS, f, s, t, f1, s1, t1, f2, s2, t2, tb, f3, s3, t3, nu, ln, sp, ls, g, ta, pl, pf, ps, pt, fi, hz, ks, tz, ra, rf, rt, la, lb, lc, mp, mv, mk, mo, my, mw, ma, ml, ak, dy, br, ad, dp, lm, rs, len, rfl, hAR⟩, o, u, v, c, rfl, ⟨o1, o2⟩, ⟨u1, u2⟩, ⟨v1, v2⟩, ⟨c1, c2⟩, hK⟩ hP1 hP0
  obtain ⟨hR, ⟨fq, rfl, hPR⟩, rfl, rfl, a5, a6, rfl, a8⟩ := id hAR
  have hO := hOS.1
  have hx4 := hO.2.2.2.2.2.2.2.2.2 4 (by omega)
  rw [x_4] at hx4
  have hx5 := hO.2.2.2.2.2.2.2.2.2 5 (by omega)
  rw [x_5] at hx5
  unfold qp4 q_manned at hK
  simp only [] at hK
  have fail : Unit → ¬ (0 ≤ o ∧ o < S.1.1 4 ∧ 0 ≤ u ∧ u ≤ v ∧ v ≤ 999 ∧ 0 ≤ c ∧ c ≤ 1) → Post (some (.int (iI (-1)))) (wA f s t f1 s1 t1 f2 s2 t2 tb f3 s3 t3 nu ln sp ls g ta pl pf ps pt (iI fq) (iI S.2.1.length) (iI (kmask S.2.2.1 : Nat)) (iI S.2.2.2.1) ra rf rt la lb lc mp mv mk mo my mw ma ml ak dy br ad dp lm rs len) := by
    intro _ hn; rw [if_neg hn] at hK; exact hP1 _ _ (hK _ (isA.mk hOS hAR))
  have loop : ∀ j : Nat, o = (j : Int) → (0 ≤ o ∧ o < S.1.1 4 ∧ 0 ≤ u ∧ u ≤ v ∧ v ≤ 999 ∧ 0 ≤ c ∧ c ≤ 1) → ∀ (n i : Nat) (x5 x6 x7 : Int32) (v8 : Option Value) (ln : Nat → Int32) (ak dy br ad dp lm rs : Int32), n = (v - u + 1).toNat - i → i ≤ (v - u + 1).toNat → x5 = iI (cntF (fun i => isM S.1 j c (u + i)) i : Nat) → x7 = iI (u + i) →
      AW l 116 40 0 0 75 none Post 52 [some (.ref 0), some (.int (iI o)), some (.int (iI u)), some (.int (iI v)), some (.int (iI c)), some (.int x5), some (.int x6), some (.int x7), v8] [] (wA f s t f1 s1 t1 f2 s2 t2 tb f3 s3 t3 nu ln sp ls g ta pl pf ps pt (iI fq) (iI S.2.1.length) (iI (kmask S.2.2.1 : Nat)) (iI S.2.2.2.1) ra rf rt la lb lc (iI (-1)) (iI (-1)) (iI 0) (iI 0) (iI 0) (iI 0) (iI (-1)) (iI (-1)) ak dy br ad dp lm rs len) 0 0 := by
    intro j hj hc n
    subst hj
    rw [if_pos hc, Int.toNat_natCast] at hK
    have hj4 : j < S.1.1 4 := by omega
    induction n using Nat.strongRecOn with
    | ind n ih =>
      intro i x5 x6 x7 v8 ln ak dy br ad dp lm rs hn hi e5 e7
      subst e5; subst e7
      have hcl := cntF_le (fun i : Nat => isM S.1 j c (u + i)) i
      refine AW.go (bs := b_Appr_manned) [52, 108] 80 t_Appr_manned ?_
      refine And.intro (fun h => ?_) (fun h => ?_)
      · rw [zc_gt (by omega) (by omega) (by omega) (by omega)] at h
        have : i = (v - u + 1).toNat := by omega
        subst this
        exact hP1 _ _ (hK _ (isA.mk hOS hAR))
      rw [zc_gt (by omega) (by omega) (by omega) (by omega)] at h
      show ∃ sp : Sp, _
      refine callA (fun _ => rfl) (v_nextDay l) (by decide) rfl ⟨_, _, _, _, _, _, _, _, _, _, _, _, _, _, _, _, _, _, _, _, _, _, _, _, _, _, _, _, _, _, _, _, _, _, _, _, _, _, _, _, _, _, _, _, _, _, _, _, _, S.1, u + i, v, rfl, rfl, hR, hO, by omega, by omega, by omega, by omega, fun nx hnx => ?_⟩
      obtain ⟨n1, n2, -⟩ := id hnx
      obtain ⟨d, hd⟩ : ∃ d : Nat, min (v + 1) nx = u + (i : Int) + (d : Int) := ⟨(min (v + 1) nx - (u + i)).toNat, by omega⟩
      have hd1 : 1 ≤ d ∧ (i : Int) + d ≤ v - u + 1 ∧ u + (i : Int) + d ≤ nx := by omega
      have hstep : cntF (fun i => isM S.1 j c (u + i)) (i + d) = cntF (fun i => isM S.1 j c (u + i)) i + (if isM S.1 j c (u + i) then d else 0) := by
        rw [cntF_const (P := fun i : Nat => isM S.1 j c (u + (i : Int))) (a := i) (b := i + d) (by omega) (fun k h1 h2 => isM_chg hnx (by omega) (by omega) j c), Nat.add_sub_cancel_left]
      have tail : ∀ (b : Bool) (x8 : Int32) (v8 : Option Value) (ln : Nat → Int32) (ak dy br ad dp lm rs : Int32), b = isM S.1 j c (u + i) → x8 = bI b → AW l 116 40 0 0 75 none Post 108 [some (.ref 0), some (.int (iI (j : Int))), some (.int (iI u)), some (.int (iI v)), some (.int (iI c)), some (.int (iI (cntF (fun i => isM S.1 j c (u + i)) i : Nat))), some (.int (iI (min (v + 1) nx))), some (.int (iI (u + i))), v8] [.int x8] (wA f s t f1 s1 t1 f2 s2 t2 tb f3 s3 t3 nu ln sp ls g ta pl pf ps pt (iI fq) (iI S.2.1.length) (iI (kmask S.2.2.1 : Nat)) (iI S.2.2.2.1) ra rf rt la lb lc (iI (-1)) (iI (-1)) (iI 0) (iI 0) (iI 0) (iI 0) (iI (-1)) (iI (-1)) ak dy br ad dp lm rs len) 0 0 := by
        intro b x8 v8 ln ak dy br ad dp lm rs hb e8
        subst e8
        have e7 : (if iI (u + (i : Int)) + z_nn 1 0 < iI (min (v + 1) nx) then iI (min (v + 1) nx) else iI (u + (i : Int)) + z_nn 1 0) = iI (u + ((i + d : Nat) : Int)) := by
          rw [zn_i, iI_add, max_iI (by omega) (by omega) (by omega) (by omega)]; congr 1; omega
        refine AW.go (bs := b_Appr_manned) [52] 80 t_Appr_manned ?_
        refine And.intro (fun h2 => ?_) (fun h2 => ?_)
        · rw [zc_beq] at h2
          rw [← hb, h2, if_neg (by decide), Nat.add_zero] at hstep
          exact ih _ (by omega) (i + d) _ _ _ _ _ _ _ _ _ _ _ _ rfl (by omega) (by rw [hstep]) e7
        · rw [zc_beq, Bool.not_eq_false] at h2
          rw [← hb, h2, if_pos rfl] at hstep
          refine ih _ (by omega) (i + d) _ _ _ _ _ _ _ _ _ _ _ _ rfl (by omega) ?_ e7
          rw [iI_sub, iI_add, hstep]
          congr 1
          push_cast
          omega
      refine And.symm (And.intro (fun h2 => ?_) (fun h2 => ?_))
      · rw [zc_ne0 c1 c2, Classical.not_not] at h2
        have hh := holder_rng hO (j : Int) (u + i)
        refine ⟨_, v_holderAt l, by decide, f, s, t, rfl, S.1, (j : Int), u + i, rfl, hR, hO, ⟨by omega, by omega⟩, ⟨by omega, by omega⟩, ?_⟩
        refine And.symm (And.intro (fun h3 => ?_) (fun h3 => ?_))
        · have h3 := mt (zc_eq (b := -1) (by omega) (by omega) (by omega) (by omega)).mpr h3
          exact tail true _ _ _ _ _ _ _ _ _ _ (by unfold isM; rw [if_pos h2, decide_eq_true h3]) rfl
        · have h3 := (zc_eq (b := -1) (by omega) (by omega) (by omega) (by omega)).mp h3
          exact tail false _ _ _ _ _ _ _ _ _ _ (by unfold isM; rw [if_pos h2, decide_eq_false (fun q => q h3)]) rfl
      · rw [zc_ne0 c1 c2] at h2
        refine ⟨_, v_ask l, by decide, ln, f, s, t, S.1, mtK 0, j, u + i, _, _, _, _, _, _, _, _, _, _, rfl, rfl, hR, hO, mtK_ok (by omega) (by omega), hj4, ⟨by omega, by omega⟩, fun ln' ak' dy' br' ad' dp' lm' hres => ?_⟩
        exact tail _ _ _ _ _ _ _ _ _ _ _ (by unfold isM; rw [if_neg h2]) rfl
  refine AW.go (bs := b_Appr_manned) [52] 80 t_Appr_manned ?_
  refine ⟨_, v_has l, by decide, f, s, t, rfl, S.1, 4, o, rfl, hR, by omega, ⟨o1, o2⟩, ?_⟩
  refine And.intro (fun h => ?_) (fun h => ?_)
  · rw [zc_beq, decide_eq_false_iff_not] at h; exact fail () (by omega)
  rw [zc_beq, decide_eq_false_iff_not, Classical.not_not] at h
  refine ⟨_, v_areDays l, by decide, rfl, u, v, rfl, ⟨u1, u2⟩, ⟨v1, v2⟩, ?_⟩
  refine And.intro (fun h => ?_) (fun h => ?_)
  · rw [zc_beq, dys, decide_eq_false_iff_not] at h; exact fail () (by omega)
  rw [zc_beq, dys, decide_eq_false_iff_not, Classical.not_not] at h
  refine And.intro (fun h => ?_) (fun h => ?_)
  · rw [zc_lt0 c1 c2] at h; exact fail () (by omega)
  rw [zc_lt0 c1 c2] at h
  refine And.symm (And.intro (fun h => ?_) (fun h => ?_))
  · rw [zn_i, zc_le c1 c2 (by omega) (by omega)] at h; exact fail () (by omega)
  rw [zn_i, zc_le c1 c2 (by omega) (by omega)] at h
  refine ⟨_, v_begin l, by decide, mp, mv, mk, mo, my, mw, ma, ml, _, _, _, rfl, rfl, ?_⟩
  obtain ⟨j, rfl⟩ : ∃ j : Nat, o = (j : Int) := ⟨o.toNat, by omega⟩
  exact loop j rfl (by omega) _ 0 _ _ _ _ _ _ _ _ _ _ _ _ rfl (by omega) rfl (by congr 1; omega)
/-- days without, the first, the longest row, the row now -/
def gpF (Q : Nat → Bool) (u : Int) : Nat → Nat × Int × Nat × Nat
  | 0 => (0, -2, 0, 0)
  | i + 1 => if Q i then ((gpF Q u i).1, (gpF Q u i).2.1, (gpF Q u i).2.2.1, 0) else ((gpF Q u i).1 + 1, (if (gpF Q u i).1 = 0 then u + i else (gpF Q u i).2.1), max (gpF Q u i).2.2.1 ((gpF Q u i).2.2.2 + 1), (gpF Q u i).2.2.2 + 1)
theorem gpF_true {Q : Nat → Bool} {u : Int} {a : Nat} : ∀ (d : Nat), (∀ i, a ≤ i → i < a + (d + 1) → Q i = true) → gpF Q u (a + (d + 1)) = ((gpF Q u a).1, (gpF Q u a).2.1, (gpF Q u a).2.2.1, 0)
  | 0, h => by show gpF Q u (a + 1) = _; rw [gpF, if_pos (h a (by omega) (by omega))]
  | d + 1, h => by
    show gpF Q u ((a + (d + 1)) + 1) = _
    rw [gpF, if_pos (h _ (by omega) (by omega)), gpF_true d (fun i h1 h2 => h i h1 (by omega))]
theorem gpF_false {Q : Nat → Bool} {u : Int} {a : Nat} : ∀ (d : Nat), (∀ i, a ≤ i → i < a + (d + 1) → Q i = false) → gpF Q u (a + (d + 1)) = ((gpF Q u a).1 + (d + 1), (if (gpF Q u a).1 = 0 then u + a else (gpF Q u a).2.1), max (gpF Q u a).2.2.1 ((gpF Q u a).2.2.2 + (d + 1)), (gpF Q u a).2.2.2 + (d + 1))
  | 0, h => by show gpF Q u (a + 1) = _; rw [gpF, if_neg (by rw [h a (by omega) (by omega)]; decide)]
  | d + 1, h => by
    show gpF Q u ((a + (d + 1)) + 1) = _
    rw [gpF, if_neg (by rw [h _ (by omega) (by omega)]; decide), gpF_false d (fun i h1 h2 => h i h1 (by omega))]
    simp only []
    rw [if_neg (by omega)]
    exact Prod.ext (by dsimp only; omega) (Prod.ext rfl (Prod.ext (by dsimp only; omega) (by dsimp only; omega)))
theorem gpF_rng {Q : Nat → Bool} {u : Int} (hu : 0 ≤ u) : ∀ i, (gpF Q u i).1 ≤ i ∧ -2 ≤ (gpF Q u i).2.1 ∧ (gpF Q u i).2.1 ≤ u + i ∧ (gpF Q u i).2.2.1 ≤ i ∧ (gpF Q u i).2.2.2 ≤ i
  | 0 => by simp [gpF]; omega
  | i + 1 => by
    have := gpF_rng (Q := Q) hu i
    unfold gpF
    split
    · simp only []; omega
    · simp only []
      split <;> omega
def q_gap (M : Od) (o u v c : Int) : Int := if 0 ≤ o ∧ o < M.1 4 ∧ 0 ≤ u ∧ u ≤ v ∧ v ≤ 999 ∧ 0 ≤ c ∧ c ≤ 2 then (if c = 0 then ((gpF (fun i => isM M o.toNat 1 (u + i)) u (v - u + 1).toNat).1 : Int) else if c = 1 then (gpF (fun i => isM M o.toNat 1 (u + i)) u (v - u + 1).toNat).2.1 else ((gpF (fun i => isM M o.toNat 1 (u + i)) u (v - u + 1).toNat).2.2.1 : Int)) else -1
set_option maxRecDepth 20000 in
theorem v_gap (l : Launch) : z_V l 117 (sp4 40 (qp4 q_gap)) := by
  refine z_V.ofP (by decide +kernel) ?_
  rintro as σ K Post ⟨S, ⟨hOS, f, s, t, f1, s1, t1, f2, s2, t2, tb, f3, s3, t3, nu, ln, sp, ls, g, ta, pl, pf, ps, pt, fi, hz, ks, tz, ra, rf, rt, la, lb, lc, mp, mv, mk, mo, my, mw, ma, ml, ak, dy, br, ad, dp, lm, rs, len, rfl, hAR⟩, o, u, v, c, rfl, ⟨o1, o2⟩, ⟨u1, u2⟩, ⟨v1, v2⟩, ⟨c1, c2⟩, hK⟩ hP1 hP0
  obtain ⟨hR, ⟨fq, rfl, hPR⟩, rfl, rfl, a5, a6, rfl, a8⟩ := id hAR
  have hO := hOS.1
  have hx4 := hO.2.2.2.2.2.2.2.2.2 4 (by omega)
  rw [x_4] at hx4
  have hx5 := hO.2.2.2.2.2.2.2.2.2 5 (by omega)
  rw [x_5] at hx5
  unfold qp4 q_gap at hK
  simp only [] at hK
  have fail : Unit → ¬ (0 ≤ o ∧ o < S.1.1 4 ∧ 0 ≤ u ∧ u ≤ v ∧ v ≤ 999 ∧ 0 ≤ c ∧ c ≤ 2) → Post (some (.int (iI (-1)))) (wA f s t f1 s1 t1 f2 s2 t2 tb f3 s3 t3 nu ln sp ls g ta pl pf ps pt (iI fq) (iI S.2.1.length) (iI (kmask S.2.2.1 : Nat)) (iI S.2.2.2.1) ra rf rt la lb lc mp mv mk mo my mw ma ml ak dy br ad dp lm rs len) := by
    intro _ hn; rw [if_neg hn] at hK; exact hP1 _ _ (hK _ (isA.mk hOS hAR))
  have loop : ∀ j : Nat, o = (j : Int) → (0 ≤ o ∧ o < S.1.1 4 ∧ 0 ≤ u ∧ u ≤ v ∧ v ≤ 999 ∧ 0 ≤ c ∧ c ≤ 2) → ∀ (n i : Nat) (G : Nat × Int × Nat × Nat) (x5 x6 x7 x8 x9 x10 : Int32) (ln : Nat → Int32) (ak dy br ad dp lm rs : Int32), n = (v - u + 1).toNat - i → i ≤ (v - u + 1).toNat → G = gpF (fun i => isM S.1 j 1 (u + i)) u i → x5 = iI (G.1 : Nat) → x6 = iI G.2.1 → x7 = iI (G.2.2.1 : Nat) → x8 = iI (G.2.2.2 : Nat) → x10 = iI (u + i) →
      AW l 117 40 0 0 75 none Post 62 [some (.ref 0), some (.int (iI o)), some (.int (iI u)), some (.int (iI v)), some (.int (iI c)), some (.int x5), some (.int x6), some (.int x7), some (.int x8), some (.int x9), some (.int x10)] [] (wA f s t f1 s1 t1 f2 s2 t2 tb f3 s3 t3 nu ln sp ls g ta pl pf ps pt (iI fq) (iI S.2.1.length) (iI (kmask S.2.2.1 : Nat)) (iI S.2.2.2.1) ra rf rt la lb lc (iI (-1)) (iI (-1)) (iI 0) (iI 0) (iI 0) (iI 0) (iI (-1)) (iI (-1)) ak dy br ad dp lm rs len) 0 0 := by
    intro j hj hc n
    subst hj
    rw [if_pos hc, Int.toNat_natCast] at hK
    have hj4 : j < S.1.1 4 := by omega
    induction n using Nat.strongRecOn with
    | ind n ih =>
      intro i G x5 x6 x7 x8 x9 x10 ln ak dy br ad dp lm rs hn hi hG e5 e6 e7 e8 e10
      subst e5; subst e6; subst e7; subst e8; subst e10
      have hb := gpF_rng (Q := fun i : Nat => isM S.1 j 1 (u + i)) (u := u) (by omega) i
      rw [← hG] at hb
      refine AW.go (bs := b_Appr_gap) [62, 143] 90 t_Appr_gap ?_
      refine And.intro (fun h => ?_) (fun h => ?_)
      · rw [zc_gt (by omega) (by omega) (by omega) (by omega)] at h
        have : i = (v - u + 1).toNat := by omega
        subst this
        rw [← hG] at hK
        refine And.symm (And.intro (fun h2 => ?_) (fun h2 => ?_))
        · rw [zc_ne0 c1 c2, Classical.not_not] at h2
          rw [if_pos h2] at hK
          exact hP1 _ _ (hK _ (isA.mk hOS hAR))
        rw [zc_ne0 c1 c2] at h2
        rw [if_neg h2] at hK
        refine And.symm (And.intro (fun h3 => ?_) (fun h3 => ?_))
        · rw [zn_i, zc_ne c1 c2 (by omega) (by omega), Classical.not_not] at h3
          rw [if_pos (by omega)] at hK
          exact hP1 _ _ (hK _ (isA.mk hOS hAR))
        · rw [zn_i, zc_ne c1 c2 (by omega) (by omega)] at h3
          rw [if_neg (by omega)] at hK
          exact hP1 _ _ (hK _ (isA.mk hOS hAR))
      rw [zc_gt (by omega) (by omega) (by omega) (by omega)] at h
      show ∃ sp : Sp, _
      refine callA (fun _ => rfl) (v_nextDay l) (by decide) rfl ⟨_, _, _, _, _, _, _, _, _, _, _, _, _, _, _, _, _, _, _, _, _, _, _, _, _, _, _, _, _, _, _, _, _, _, _, _, _, _, _, _, _, _, _, _, _, _, _, _, _, S.1, u + i, v, rfl, rfl, hR, hO, by omega, by omega, by omega, by omega, fun nx hnx => ?_⟩
      obtain ⟨n1, n2, -⟩ := id hnx
      obtain ⟨d, hd⟩ : ∃ d : Nat, min (v + 1) nx = u + (i : Int) + ((d : Int) + 1) := ⟨(min (v + 1) nx - (u + i) - 1).toNat, by omega⟩
      have hd1 : (i : Int) + (d + 1) ≤ v - u + 1 ∧ u + (i : Int) + (d + 1) ≤ nx := by omega
      have e7 : (if iI (u + (i : Int)) + z_nn 1 0 < iI (min (v + 1) nx) then iI (min (v + 1) nx) else iI (u + (i : Int)) + z_nn 1 0) = iI (u + ((i + (d + 1) : Nat) : Int)) := by
        rw [zn_i, iI_add, max_iI (by omega) (by omega) (by omega) (by omega)]; congr 1; omega
      have tail : ∀ (G' : Nat × Int × Nat × Nat) (x5 x6 x7 x8 : Int32) (ln : Nat → Int32) (ak dy br ad dp lm rs : Int32), G' = gpF (fun i => isM S.1 j 1 (u + i)) u (i + (d + 1)) → x5 = iI (G'.1 : Nat) → x6 = iI G'.2.1 → x7 = iI (G'.2.2.1 : Nat) → x8 = iI (G'.2.2.2 : Nat) → AW l 117 40 0 0 75 none Post 143 [some (.ref 0), some (.int (iI (j : Int))), some (.int (iI u)), some (.int (iI v)), some (.int (iI c)), some (.int x5), some (.int x6), some (.int x7), some (.int x8), some (.int (iI (min (v + 1) nx))), some (.int (iI (u + i)))] [] (wA f s t f1 s1 t1 f2 s2 t2 tb f3 s3 t3 nu ln sp ls g ta pl pf ps pt (iI fq) (iI S.2.1.length) (iI (kmask S.2.2.1 : Nat)) (iI S.2.2.2.1) ra rf rt la lb lc (iI (-1)) (iI (-1)) (iI 0) (iI 0) (iI 0) (iI 0) (iI (-1)) (iI (-1)) ak dy br ad dp lm rs len) 0 0 := by
        intro G' x5 x6 x7 x8 ln ak dy br ad dp lm rs hG' e5 e6 e7' e8
        refine AW.go (bs := b_Appr_gap) [62] 90 t_Appr_gap ?_
        exact ih _ (by omega) (i + (d + 1)) G' _ _ _ _ _ _ _ _ _ _ _ _ _ _ rfl (by omega) hG' e5 e6 e7' e8 e7
      refine ⟨_, v_ask l, by decide, ln, f, s, t, S.1, mtK 0, j, u + i, _, _, _, _, _, _, _, _, _, _, rfl, rfl, hR, hO, mtK_ok (by omega) (by omega), hj4, ⟨by omega, by omega⟩, fun ln' ak' dy' br' ad' dp' lm' hres => ?_⟩
      have hconst : ∀ k : Nat, i ≤ k → k < i + (d + 1) → isM S.1 j 1 (u + k) = (decF S.1 (mtK 0) j (u + i)).isSome := fun k h1 h2 => by
        rw [isM_chg hnx (by omega) (by omega)]; rfl
      refine And.symm (And.intro (fun h2 => ?_) (fun h2 => ?_))
      · rw [zc_beq, Bool.not_eq_false] at h2
        have hg := gpF_true (Q := fun i : Nat => isM S.1 j 1 (u + i)) (u := u) (a := i) d (fun k h1 h3 => by rw [hconst k h1 h3, h2])
        rw [← hG] at hg
        exact tail _ _ _ _ _ _ _ _ _ _ _ _ _ hg.symm rfl rfl rfl rfl
      · rw [zc_beq] at h2
        have hg := gpF_false (Q := fun i : Nat => isM S.1 j 1 (u + i)) (u := u) (a := i) d (fun k h1 h3 => by rw [hconst k h1 h3, h2])
        rw [← hG] at hg
        have es : iI (min (v + 1) nx) - iI (u + (i : Int)) = iI ((d : Int) + 1) := by rw [iI_sub]; congr 1; omega
        have fin : ∀ x6 : Int32, x6 = iI (if G.1 = 0 then u + i else G.2.1) → AW l 117 40 0 0 75 none Post 143 [some (.ref 0), some (.int (iI (j : Int))), some (.int (iI u)), some (.int (iI v)), some (.int (iI c)), some (.int (iI (G.1 : Int) + (iI (min (v + 1) nx) - iI (u + (i : Int))))), some (.int x6), some (.int (if iI (G.2.2.1 : Int) < iI (G.2.2.2 : Int) + (iI (min (v + 1) nx) - iI (u + (i : Int))) then iI (G.2.2.2 : Int) + (iI (min (v + 1) nx) - iI (u + (i : Int))) else iI (G.2.2.1 : Int))), some (.int (iI (G.2.2.2 : Int) + (iI (min (v + 1) nx) - iI (u + (i : Int))))), some (.int (iI (min (v + 1) nx))), some (.int (iI (u + i)))] [] (wA f s t f1 s1 t1 f2 s2 t2 tb f3 s3 t3 nu ln' sp ls g ta pl pf ps pt (iI fq) (iI S.2.1.length) (iI (kmask S.2.2.1 : Nat)) (iI S.2.2.2.1) ra rf rt la lb lc (iI (-1)) (iI (-1)) (iI 0) (iI 0) (iI 0) (iI 0) (iI (-1)) (iI (-1)) ak' dy' br' ad' dp' lm' (iI (reaF S.1 (mtK 0) j (u + i))) len) 0 0 := by
          intro x6 h6
          refine tail _ _ _ _ _ _ _ _ _ _ _ _ _ hg.symm ?_ h6 ?_ ?_
          · rw [es, iI_add]; congr 1
          · rw [es, iI_add, max_iI (by omega) (by omega) (by omega) (by omega)]; congr 1; push_cast; omega
          · rw [es, iI_add]; congr 1
        refine And.symm (And.intro (fun h3 => ?_) (fun h3 => ?_))
        · rw [zc_ne0 (by omega) (by omega), Classical.not_not] at h3
          exact fin _ (by rw [if_pos (by omega)])
        · rw [zc_ne0 (by omega) (by omega)] at h3
          exact fin _ (by rw [if_neg (by omega)])
  refine AW.go (bs := b_Appr_gap) [62] 90 t_Appr_gap ?_
  refine ⟨_, v_has l, by decide, f, s, t, rfl, S.1, 4, o, rfl, hR, by omega, ⟨o1, o2⟩, ?_⟩
  refine And.intro (fun h => ?_) (fun h => ?_)
  · rw [zc_beq, decide_eq_false_iff_not] at h; exact fail () (by omega)
  rw [zc_beq, decide_eq_false_iff_not, Classical.not_not] at h
  refine ⟨_, v_areDays l, by decide, rfl, u, v, rfl, ⟨u1, u2⟩, ⟨v1, v2⟩, ?_⟩
  refine And.intro (fun h => ?_) (fun h => ?_)
  · rw [zc_beq, dys, decide_eq_false_iff_not] at h; exact fail () (by omega)
  rw [zc_beq, dys, decide_eq_false_iff_not, Classical.not_not] at h
  refine And.intro (fun h => ?_) (fun h => ?_)
  · rw [zc_lt0 c1 c2] at h; exact fail () (by omega)
  rw [zc_lt0 c1 c2] at h
  refine And.symm (And.intro (fun h => ?_) (fun h => ?_))
  · rw [zn_i, zc_le c1 c2 (by omega) (by omega)] at h; exact fail () (by omega)
  rw [zn_i, zc_le c1 c2 (by omega) (by omega)] at h
  refine ⟨_, v_begin l, by decide, mp, mv, mk, mo, my, mw, ma, ml, _, _, _, rfl, rfl, ?_⟩
  obtain ⟨j, rfl⟩ : ∃ j : Nat, o = (j : Int) := ⟨o.toNat, by omega⟩
  exact loop j rfl (by omega) _ 0 _ _ _ _ _ _ _ _ _ _ _ _ _ _ _ rfl (by omega) rfl rfl rfl rfl rfl (by congr 1; omega)
