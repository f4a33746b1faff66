/-- what is known of the route behind a request that is not recalled -/
def sp_isApprovedNow : Sp := (34, 0, 0, pA, fun as σ K => ∃ (f s t f1 s1 t1 f2 s2 t2 tb f3 s3 t3 nu ln sp ls g ta pl : Nat → Int32) (pf ps pt : Nat → Nat → Int32) (fi hz ks tz ra rf rt la lb lc mp mv mk mo my mw ma ml ak dy br ad dp lm rs len : Int32) (M : Od) (r : Nat), as = [.ref 0, .int (iI r)] ∧ σ = (wA f s t f1 s1 t1 f2 s2 t2 tb f3 s3 t3 nu ln sp ls g ta pl pf ps pt fi hz ks tz ra rf rt la lb lc mp mv mk mo my mw ma ml ak dy br ad dp lm rs len) ∧ RS f s t M ∧ OKM M ∧ r < M.1 5 ∧ (recd M r = true → K (some (.int (iI 0))) (some (wA f s t f1 s1 t1 f2 s2 t2 tb f3 s3 t3 nu ln sp ls g ta pl pf ps pt fi hz ks tz ra rf rt la lb lc mp mv mk mo my mw ma ml ak dy br ad dp lm rs len))) ∧ (recd M r = false → ∀ (sp' ls' ln' : Nat → Int32) (mp' mv' mk' mo' my' mw' ma' ml' ak' dy' br' ad' dp' lm' rs' : Int32), RR sp' ls' (wq M r) (rq M r) → K (some (.int (bI (apd M r)))) (some (wA f s t f1 s1 t1 f2 s2 t2 tb f3 s3 t3 nu ln' sp' ls' g ta pl pf ps pt fi hz ks tz ra rf rt la lb lc mp' mv' mk' mo' my' mw' ma' ml' ak' dy' br' ad' dp' lm' rs' (iI (rq M r).length)))))
set_option maxRecDepth 20000 in
theorem v_isApprovedNow (l : Launch) : z_V l 136 sp_isApprovedNow := by
  refine z_V.ofP (by decide +kernel) ?_
  rintro as σ K Post ⟨f, s, t, f1, s1, t1, f2, s2, t2, tb, f3, s3, t3, nu, ln, sp, ls, g, ta, pl, pf, ps, pt, fi, hz, ks, tz, ra, rf, rt, la, lb, lc, mp, mv, mk, mo, my, mw, ma, ml, ak, dy, br, ad, dp, lm, rs, len, M, r, rfl, rfl, hR, hO, hr, hK1, hK2⟩ hP1 hP0
  refine AW.go (bs := b_Appr_isApprovedNow) [] 60 t_Appr_isApprovedNow ?_
  refine ⟨_, v_isRecalled l, by decide, f, s, t, rfl, M, r, rfl, hR, hO, hr, ?_⟩
  refine And.symm (And.intro (fun h => ?_) (fun h => ?_))
  · rw [zc_beq, Bool.not_eq_false] at h
    exact And.intro (Or.inl rfl) (hP1 _ _ (hK1 h))
  rw [zc_beq] at h
  have hx4 := hO.2.2.2.2.2.2.2.2.2 4 (by omega)
  rw [x_4] at hx4
  have hc := hO.2.2.2.2.2.1 r hr
  have hw := whF_rng hO hr (M.2.1 5 r 5)
  have hwq : 1 ≤ wq M r ∧ wq M r ≤ 500000 := hw
  have hq := rq_ok hO hr
  show ∃ sp : Sp, _
  refine callA (fun _ => rfl) (v_matterOf l) (by decide) rfl ⟨_, _, _, _, _, _, _, _, _, _, _, _, _, _, _, _, _, _, _, _, _, _, _, _, _, _, _, _, _, _, _, _, _, _, _, _, _, _, _, _, _, _, _, _, _, _, _, _, _, M, r, rfl, rfl, hR, hO, hr, kkR isW isW ?_⟩
  refine ⟨_, v_follow l, by decide, _, _, _, f, s, t, M, mtR M r, M.2.1 5 r 1, M.2.1 5 r 5, wq M r, _, _, _, _, _, _, _, _, rfl, rfl, hR, hO, mtR_ok hO hr, ⟨by omega, by omega⟩, by omega, by omega, ⟨by omega, by omega⟩, fun sp' ls' ln' ak' dy' br' ad' dp' lm' rs' hRR => ?_⟩
  refine ⟨_, v_isApproved l, by decide, _, _, _, _, _, _, _, _, _, _, _, _, _, wq M r, rq M r, rfl, hRR, hq.2, hq.1, rfl, ?_⟩
  exact And.intro (bI_01 _) (hP1 _ _ (hK2 h _ _ _ _ _ _ _ _ _ _ _ _ _ _ _ _ _ _ hRR))
/-- the approved ones: how many, their amounts, the longest wait, whose -/
noncomputable def apF (M : Od) : Nat → Nat × Int × Int × Int
  | 0 => (0, 0, -2, -2)
  | n + 1 => if !recd M n && apd M n then ((apF M n).1 + 1, (apF M n).2.1 + M.2.1 5 n 4, (if (apF M n).2.2.1 < lC (rq M n) (wq M n) 1 - M.2.1 5 n 5 then (lC (rq M n) (wq M n) 1 - M.2.1 5 n 5, (n : Int)) else (apF M n).2.2)) else apF M n
theorem apF_rng {M : Od} (hO : OKM M) : ∀ n, n ≤ M.1 5 → (apF M n).1 ≤ n ∧ 0 ≤ (apF M n).2.1 ∧ (apF M n).2.1 ≤ 9999 * n ∧ -1001 ≤ (apF M n).2.2.1 ∧ (apF M n).2.2.1 ≤ 9999 ∧ -2 ≤ (apF M n).2.2.2 ∧ (apF M n).2.2.2 ≤ n
  | 0, _ => by simp [apF]
  | n + 1, hn => by
    have ih := apF_rng hO n (by omega)
    have hc := hO.2.2.2.2.2.1 n (by omega)
    have hl := lC_rng (rq_ok hO (show n < M.1 5 by omega)).1 (wq M n) 1
    unfold apF
    split
    · simp only []
      split
      · simp only []; omega
      · omega
    · omega
noncomputable def q_approved (M : Od) (c : Int) : Int := if 0 ≤ c ∧ c ≤ 3 then (if c = 0 then ((apF M (M.1 5)).1 : Int) else if c = 1 then (apF M (M.1 5)).2.1 else if c = 2 then (apF M (M.1 5)).2.2.1 else (apF M (M.1 5)).2.2.2) else -1
set_option maxRecDepth 20000 in
theorem v_approved (l : Launch) : z_V l 114 (sp1 40 (qp q_approved)) := by
  refine z_V.ofP (by decide +kernel) ?_
  rintro as σ K Post ⟨S, ⟨hOS, f, s, t, f1, s1, t1, f2, s2, t2, tb, f3, s3, t3, nu, ln, sp, ls, g, ta, pl, pf, ps, pt, fi, hz, ks, tz, ra, rf, rt, la, lb, lc, mp, mv, mk, mo, my, mw, ma, ml, ak, dy, br, ad, dp, lm, rs, len, rfl, hAR⟩, c, rfl, ⟨c1, c2⟩, hK⟩ hP1 hP0
  obtain ⟨hR, ⟨fq, rfl, hPR⟩, rfl, rfl, a5, a6, rfl, a8⟩ := id hAR
  have hO := hOS.1
  have hx4 := hO.2.2.2.2.2.2.2.2.2 4 (by omega)
  rw [x_4] at hx4
  have hx5 := hO.2.2.2.2.2.2.2.2.2 5 (by omega)
  rw [x_5] at hx5
  unfold qp q_approved at hK
  simp only [] at hK
  have fail : Unit → ¬ (0 ≤ c ∧ c ≤ 3) → Post (some (.int (iI (-1)))) (wA f s t f1 s1 t1 f2 s2 t2 tb f3 s3 t3 nu ln sp ls g ta pl pf ps pt (iI fq) (iI S.2.1.length) (iI (kmask S.2.2.1 : Nat)) (iI S.2.2.2.1) ra rf rt la lb lc mp mv mk mo my mw ma ml ak dy br ad dp lm rs len) := by
    intro _ hn; rw [if_neg hn] at hK; exact hP1 _ _ (hK _ (isA.mk hOS hAR))
  have hs := hR.size 5 (by omega)
  have loop : (0 ≤ c ∧ c ≤ 3) → ∀ (n i : Nat) (x2 x3 x4 x5 x6 : Int32) (v7 : Option Value) (sp ls ln : Nat → Int32) (mp mv mk mo my mw ma ml ak dy br ad dp lm rs len : Int32), n = S.1.1 5 - i → i ≤ S.1.1 5 → x2 = iI ((apF S.1 i).1 : Nat) → x3 = iI (apF S.1 i).2.1 → x4 = iI (apF S.1 i).2.2.1 → x5 = iI (apF S.1 i).2.2.2 → x6 = iI (i : Int) →
      AW l 114 40 0 0 75 none Post 26 [some (.ref 0), some (.int (iI c)), some (.int x2), some (.int x3), some (.int x4), some (.int x5), some (.int x6), v7] [] (wA f s t f1 s1 t1 f2 s2 t2 tb f3 s3 t3 nu ln sp ls g ta pl pf ps pt (iI fq) (iI S.2.1.length) (iI (kmask S.2.2.1 : Nat)) (iI S.2.2.2.1) ra rf rt la lb lc mp mv mk mo my mw ma ml ak dy br ad dp lm rs len) 0 0 := by
    intro hc n
    rw [if_pos hc] at hK
    induction n using Nat.strongRecOn with
    | ind n ih =>
      intro i x2 x3 x4 x5 x6 v7 sp ls ln mp mv mk mo my mw ma ml ak dy br ad dp lm rs len hn hi e2 e3 e4 e5 e6
      subst e2; subst e3; subst e4; subst e5; subst e6
      have hb := apF_rng hO i hi
      refine AW.go (bs := b_Appr_approved) [26] 70 t_Appr_approved ?_
      refine And.intro (zn_in (by omega) (by omega)) ?_
      refine And.intro (fun h => ?_) (fun h => ?_)
      · rw [zn_cl (by omega), hs, zc_ge (by omega) (by omega) (by omega) (by omega)] at h
        have : i = S.1.1 5 := by omega
        subst this
        have ex : ∀ x : Int, 0 ≤ x → x ≤ 20 → iI c = Int32.ofInt x → c = x := fun x h0 h1 e => (iI_inj c1 c2 (by omega) (by omega)).mp e
        refine And.intro (fun h => ?_) ⟨fun h => ?_, fun h => ?_, fun h => ?_, trivial⟩
        · rw [iI_toInt c1 c2] at h
          have : c = 3 := by omega
          subst this
          exact hP1 _ _ (hK _ (isA.mk hOS hAR))
        · have h := ex 0 (by omega) (by omega) h
          subst h
          exact hP1 _ _ (hK _ (isA.mk hOS hAR))
        · have h := ex 1 (by omega) (by omega) h
          subst h
          exact hP1 _ _ (hK _ (isA.mk hOS hAR))
        · have h := ex 2 (by omega) (by omega) h
          subst h
          exact hP1 _ _ (hK _ (isA.mk hOS hAR))
      rw [zn_cl (by omega), hs, zc_ge (by omega) (by omega) (by omega) (by omega)] at h
      have hr : i < S.1.1 5 := by omega
      have hc := hO.2.2.2.2.2.1 i hr
      have hw := whF_rng hO hr (S.1.2.1 5 i 5)
      have hwq : 1 ≤ wq S.1 i ∧ wq S.1 i ≤ 500000 := hw
      have hq := rq_ok hO hr
      show ∃ sp : Sp, _
      refine callA (fun _ => rfl) (v_isApprovedNow l) (by decide) rfl ⟨_, _, _, _, _, _, _, _, _, _, _, _, _, _, _, _, _, _, _, _, _, _, _, _, _, _, _, _, _, _, _, _, _, _, _, _, _, _, _, _, _, _, _, _, _, _, _, _, _, S.1, i, rfl, rfl, hR, hO, hr, fun g => kkA isW isW ?_, fun g sp' ls' ln' mp' mv' mk' mo' my' mw' ma' ml' ak' dy' br' ad' dp' lm' rs' hRR => kkA isW isW ?_⟩
      · have e : apF S.1 (i + 1) = apF S.1 i := by rw [apF, g]; rfl
        refine And.intro (fun _ => ?_) (fun h => absurd zt_eq0 h)
        exact ih _ (by omega) (i + 1) _ _ _ _ _ _ _ _ _ _ _ _ _ _ _ _ _ _ _ _ _ _ _ _ _ rfl (by omega) (by rw [e]) (by rw [e]) (by rw [e]) (by rw [e]) (zn_inc i)
      have hl := lC_rng hq.1 (wq S.1 i) 1
      refine And.intro (fun h => ?_) (fun h => ?_)
      · rw [zc_beq] at h
        have e : apF S.1 (i + 1) = apF S.1 i := by rw [apF, h, Bool.and_false]; rfl
        exact ih _ (by omega) (i + 1) _ _ _ _ _ _ _ _ _ _ _ _ _ _ _ _ _ _ _ _ _ _ _ _ _ rfl (by omega) (by rw [e]) (by rw [e]) (by rw [e]) (by rw [e]) (zn_inc i)
      rw [zc_beq, Bool.not_eq_false] at h
      have e : apF S.1 (i + 1) = ((apF S.1 i).1 + 1, (apF S.1 i).2.1 + S.1.2.1 5 i 4, (if (apF S.1 i).2.2.1 < lC (rq S.1 i) (wq S.1 i) 1 - S.1.2.1 5 i 5 then (lC (rq S.1 i) (wq S.1 i) 1 - S.1.2.1 5 i 5, (i : Int)) else (apF S.1 i).2.2)) := by rw [apF, g, h]; rfl
      refine ⟨_, v_cell l, by decide, f, s, t, rfl, S.1, 5, i, 4, rfl, hR, by omega, hr, by decide, ?_⟩
      refine ⟨_, v_lastCell l, by decide, _, _, _, _, _, _, _, _, _, _, _, _, _, wq S.1 i, rq S.1 i, rfl, hRR, hq.2, 1, rfl, by omega, ?_⟩
      refine ⟨_, v_cell l, by decide, f, s, t, rfl, S.1, 5, i, 5, rfl, hR, by omega, hr, by decide, ?_⟩
      show _ ∧ _
      rw [iI_sub, iI_add]
      refine And.intro (fun h2 => ?_) (fun h2 => ?_)
      · rw [zc_le (by omega) (by omega) (by omega) (by omega)] at h2
        rw [if_neg (by omega)] at e
        exact ih _ (by omega) (i + 1) _ _ _ _ _ _ _ _ _ _ _ _ _ _ _ _ _ _ _ _ _ _ _ _ _ rfl (by omega) (by rw [e]; exact zn_inc _) (by rw [e]) (by rw [e]) (by rw [e]) (zn_inc i)
      · rw [zc_le (by omega) (by omega) (by omega) (by omega)] at h2
        rw [if_pos (by omega)] at e
        exact ih _ (by omega) (i + 1) _ _ _ _ _ _ _ _ _ _ _ _ _ _ _ _ _ _ _ _ _ _ _ _ _ rfl (by omega) (by rw [e]; exact zn_inc _) (by rw [e]) (by rw [e]) (by rw [e]) (zn_inc i)
  refine AW.go (bs := b_Appr_approved) [26] 70 t_Appr_approved ?_
  refine And.intro (fun h => ?_) (fun h => ?_)
  · rw [zc_lt0 c1 c2] at h; exact fail () (by omega)
  rw [zc_lt0 c1 c2] at h
  refine And.symm (And.intro (fun h => ?_) (fun h => ?_))
  · rw [zn_i, zc_le c1 c2 (by omega) (by omega)] at h; exact fail () (by omega)
  rw [zn_i, zc_le c1 c2 (by omega) (by omega)] at h
  exact loop (by omega) _ 0 _ _ _ _ _ _ _ _ _ _ _ _ _ _ _ _ _ _ _ _ _ _ _ _ _ rfl (by omega) rfl rfl rfl rfl rfl
/-- those who could approve it at once -/
def coF (M : Od) (m : Mt) (y w : Int) : Nat → Int → Nat → Nat
  | 0, _, b => b
  | n + 1, p, b => if 0 ≤ p ∧ p < M.1 4 then coF M m y w n (M.2.1 4 p.toNat 0) (match decF M m p.toNat y with | some (x, L) => (if w ≤ x then b ||| bitI (lastP L) else b) | none => b) else b
noncomputable def q_could (M : Od) (r : Int) : Int := if 0 ≤ r ∧ r < M.1 5 then (coF M (mtR M r.toNat) (M.2.1 5 r.toNat 5) (wq M r.toNat) 12 (M.2.1 5 r.toNat 1) 0 : Int) else -1
set_option maxRecDepth 20000 in
theorem v_could (l : Launch) : z_V l 115 (sp1 40 (qp q_could)) := by
  refine z_V.ofP (by decide +kernel) ?_
  rintro as σ K Post ⟨S, ⟨hOS, f, s, t, f1, s1, t1, f2, s2, t2, tb, f3, s3, t3, nu, ln, sp, ls, g, ta, pl, pf, ps, pt, fi, hz, ks, tz, ra, rf, rt, la, lb, lc, mp, mv, mk, mo, my, mw, ma, ml, ak, dy, br, ad, dp, lm, rs, len, rfl, hAR⟩, r, rfl, ⟨r1, r2⟩, hK⟩ hP1 hP0
  obtain ⟨hR, ⟨fq, rfl, hPR⟩, rfl, rfl, a5, a6, rfl, a8⟩ := id hAR
  have hO := hOS.1
  have hx4 := hO.2.2.2.2.2.2.2.2.2 4 (by omega)
  rw [x_4] at hx4
  have hx5 := hO.2.2.2.2.2.2.2.2.2 5 (by omega)
  rw [x_5] at hx5
  unfold qp q_could at hK
  simp only [] at hK
  have loop : ∀ j : Nat, r = (j : Int) → (0 ≤ r ∧ r < S.1.1 5) → ∀ (n b : Nat) (p : Int) (x4 : Int32) (ln : Nat → Int32) (ak dy br ad dp lm rs : Int32), n ≤ 12 → x4 = iI (12 - n : Int) → -2 ≤ p → p ≤ 9999 → coF S.1 (mtR S.1 j) (S.1.2.1 5 j 5) (wq S.1 j) n p b = coF S.1 (mtR S.1 j) (S.1.2.1 5 j 5) (wq S.1 j) 12 (S.1.2.1 5 j 1) 0 →
      AW l 115 40 0 0 75 none Post 33 [some (.ref 0), some (.int (iI r)), some (.int (iI (b : Int))), some (.int (iI p)), some (.int x4)] [] (wA f s t f1 s1 t1 f2 s2 t2 tb f3 s3 t3 nu ln sp ls g ta pl pf ps pt (iI fq) (iI S.2.1.length) (iI (kmask S.2.2.1 : Nat)) (iI S.2.2.2.1) ra rf rt la lb lc (iI (S.1.2.1 5 j 0)) (iI (S.1.2.1 5 j 2)) (iI (S.1.2.1 5 j 3)) (iI (S.1.2.1 5 j 1)) (iI (S.1.2.1 5 j 5)) (iI (wq S.1 j)) (iI (-1)) (iI (-1)) ak dy br ad dp lm rs len) 0 0 := by
    intro j hj hc n
    subst hj
    rw [if_pos hc, Int.toNat_natCast] at hK
    have hr : j < S.1.1 5 := by omega
    have hc := hO.2.2.2.2.2.1 j hr
    have hw := whF_rng hO hr (S.1.2.1 5 j 5)
    have hwq : 1 ≤ wq S.1 j ∧ wq S.1 j ≤ 500000 := hw
    have hq := rq_ok hO hr
    induction n with
    | zero =>
      intro b p x4 ln ak dy br ad dp lm rs hn e4 p0 p1 hv
      subst e4
      rw [coF] at hv
      rw [← hv] at hK
      refine AW.go (bs := b_Appr_could) [33] 70 t_Appr_could ?_
      refine And.intro (fun h => ?_) (fun h => ?_)
      · exact hP1 _ _ (hK _ (isA.mk hOS hAR))
      · rw [zn_i, zc_ge (by omega) (by omega) (by omega) (by omega)] at h; omega
    | succ n ih =>
      intro b p x4 ln ak dy br ad dp lm rs hn e4 p0 p1 hv
      subst e4
      refine AW.go (bs := b_Appr_could) [33] 70 t_Appr_could ?_
      refine And.intro (fun h => ?_) (fun h => ?_)
      · rw [zn_i, zc_ge (by omega) (by omega) (by omega) (by omega)] at h; omega
      refine ⟨_, v_has l, by decide, f, s, t, rfl, S.1, 4, p, rfl, hR, by omega, ⟨by omega, by omega⟩, ?_⟩
      refine And.intro (fun h => ?_) (fun h => ?_)
      · rw [zc_beq, decide_eq_false_iff_not] at h
        rw [coF, if_neg h] at hv
        rw [← hv] at hK
        exact hP1 _ _ (hK _ (isA.mk hOS hAR))
      rw [zc_beq, decide_eq_false_iff_not, Classical.not_not] at h
      rw [coF, if_pos h] at hv
      obtain ⟨q, rfl⟩ : ∃ q : Nat, p = (q : Int) := ⟨p.toNat, by omega⟩
      rw [Int.toNat_natCast] at hv
      have hq4 : q < S.1.1 4 := by omega
      have hcl := hO.cell (d := 4) (c := 0) (by omega) hq4 (by decide)
      have e4' : iI (12 - ((n + 1 : Nat) : Int)) + z_nn 1 0 = iI (12 - (n : Int)) := by rw [zn_i, iI_add]; congr 1; omega
      refine ⟨_, v_ask l, by decide, ln, f, s, t, S.1, mtR S.1 j, q, S.1.2.1 5 j 5, _, _, _, _, _, _, _, _, _, _, rfl, rfl, hR, hO, mtR_ok hO hr, hq4, ⟨by omega, by omega⟩, fun ln' ak' dy' br' ad' dp' lm' hres => ?_⟩
      cases hd : decF S.1 (mtR S.1 j) q (S.1.2.1 5 j 5) with
      | none =>
        rw [hd] at hv
        refine And.intro (fun _ => ?_) (fun h => absurd zt_eqf h)
        refine ⟨_, v_cell l, by decide, f, s, t, rfl, S.1, 4, q, 0, rfl, hR, by omega, hq4, by decide, ?_⟩
        exact ih b _ _ _ _ _ _ _ _ _ _ (by omega) e4' (by omega) (by omega) hv
      | some z =>
        obtain ⟨x, L⟩ := z
        rw [hd] at hres hv
        simp only [] at hv
        obtain ⟨g1, g2, g3, g4, g5⟩ := decF_ok hO (mtR_ok hO hr) hq4 hd
        obtain ⟨rfl, d2, rfl⟩ := dec_last hres g3
        have hlp := lastP_rng g5
        refine And.intro (fun h => absurd h zt_neqt) (fun _ => ?_)
        refine And.intro (fun h => ?_) (fun h => ?_)
        · have h := (zc_lt (b := wq S.1 j) (by omega) (by omega) (by omega) (by omega)).mp h
          rw [if_neg (by omega)] at hv
          refine ⟨_, v_cell l, by decide, f, s, t, rfl, S.1, 4, q, 0, rfl, hR, by omega, hq4, by decide, ?_⟩
          exact ih b _ _ _ _ _ _ _ _ _ _ (by omega) e4' (by omega) (by omega) hv
        · have h := mt (zc_lt (b := wq S.1 j) (by omega) (by omega) (by omega) (by omega)).mpr h
          rw [if_pos (by omega)] at hv
          refine ⟨_, v_decider l, by decide, ln', f, s, t, _, _, _, _, _, _, L.length - 1, rfl, rfl, by omega, ?_⟩
          show ∃ sp : Sp, _
          rw [d2]
          refine ⟨_, v_bitOf l, by decide, rfl, lastP L, rfl, ⟨by omega, by omega⟩, ?_⟩
          show ∃ sp : Sp, _
          rw [zb_or]
          refine ⟨_, v_cell l, by decide, f, s, t, rfl, S.1, 4, q, 0, rfl, hR, by omega, hq4, by decide, ?_⟩
          exact ih _ _ _ _ _ _ _ _ _ _ _ (by omega) e4' (by omega) (by omega) hv
  refine AW.go (bs := b_Appr_could) [33] 70 t_Appr_could ?_
  refine ⟨_, v_has l, by decide, f, s, t, rfl, S.1, 5, r, rfl, hR, by omega, ⟨r1, r2⟩, ?_⟩
  refine And.symm (And.intro (fun h => ?_) (fun h => ?_))
  · rw [zc_bne, decide_eq_true_eq] at h
    rw [if_neg h] at hK
    exact hP1 _ _ (hK _ (isA.mk hOS hAR))
  rw [zc_bne, decide_eq_true_eq] at h
  obtain ⟨j, rfl⟩ : ∃ j : Nat, r = (j : Int) := ⟨r.toNat, by omega⟩
  have hr : j < S.1.1 5 := by omega
  have hc := hO.2.2.2.2.2.1 j hr
  show ∃ sp : Sp, _
  refine callA (fun _ => rfl) (v_matterOf l) (by decide) rfl ⟨_, _, _, _, _, _, _, _, _, _, _, _, _, _, _, _, _, _, _, _, _, _, _, _, _, _, _, _, _, _, _, _, _, _, _, _, _, _, _, _, _, _, _, _, _, _, _, _, _, S.1, j, rfl, rfl, hR, hO, hr, kkR isW isW ?_⟩
  exact loop j rfl (by omega) 12 0 _ _ _ _ _ _ _ _ _ _ (by omega) rfl (by omega) (by omega) rfl
