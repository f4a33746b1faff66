/-! purchases that are split on purpose -/
def shr (a : Int) (n i : Nat) : Int := if (i : Int) < a % (n : Int) then a / (n : Int) + 1 else a / (n : Int)
def cvB (P : Nat → Int) (a : Int) (n : Nat) : Nat → Bool
  | 0 => true
  | i + 1 => cvB P a n i && decide (shr a n i ≤ P i)
def sp_coverParts : Sp := (0, 0, 0, pA, fun as σ K => ∃ (f s t f1 s1 t1 f2 s2 t2 tb f3 s3 t3 nu ln sp ls g ta pl : Nat → Int32) (pf ps pt : Nat → Nat → Int32) (fi hz ks tz ra rf rt la lb lc mp mv mk mo my mw ma ml ak dy br ad dp lm rs len : Int32) (P : Nat → Int) (a : Int) (n : Nat), as = [.ref 0, .int (iI n), .int (iI a)] ∧ σ = (wA f s t f1 s1 t1 f2 s2 t2 tb f3 s3 t3 nu ln sp ls g ta pl pf ps pt fi hz ks tz ra rf rt la lb lc mp mv mk mo my mw ma ml ak dy br ad dp lm rs len) ∧ 1 ≤ n ∧ n ≤ 40 ∧ 1 ≤ a ∧ a ≤ 9999 ∧ (∀ i, i < n → pl i = iI (P i) ∧ -2 ≤ P i ∧ P i ≤ 9999) ∧ K (some (.int (bI (cvB P a n n)))) none)
theorem cvB_false {P : Nat → Int} {a : Int} {n : Nat} {i : Nat} (h : cvB P a n i = false) : ∀ j, i ≤ j → cvB P a n j = false := by
  intro j
  induction j with
  | zero => intro hj; rw [show i = 0 by omega] at h; exact h
  | succ j ih =>
    intro hj
    rcases Nat.lt_or_ge i (j + 1) with q | q
    · rw [cvB, ih (by omega), Bool.false_and]
    · rw [← show i = j + 1 by omega]; exact h
theorem shr_rng {a : Int} {n i : Nat} (h0 : 1 ≤ n) (h1 : 1 ≤ a) (h2 : a ≤ 9999) : 0 ≤ a / (n : Int) ∧ a / (n : Int) ≤ 9999 ∧ 0 ≤ a % (n : Int) ∧ a % (n : Int) < n := by
  have h3 : (0 : Int) < n := by omega
  refine ⟨Int.ediv_nonneg (by omega) (by omega), ?_, Int.emod_nonneg _ (by omega), Int.emod_lt_of_pos _ h3⟩
  have := Int.ediv_le_self (n : Int) (show 0 ≤ a by omega)
  omega
set_option maxRecDepth 20000 in
theorem v_coverParts (l : Launch) : z_V l 144 sp_coverParts := by
  refine z_V.ofP (by decide +kernel) ?_
  rintro as σ K Post ⟨f, s, t, f1, s1, t1, f2, s2, t2, tb, f3, s3, t3, nu, ln, sp, ls, g, ta, pl, pf, ps, pt, fi, hz, ks, tz, ra, rf, rt, la, lb, lc, mp, mv, mk, mo, my, mw, ma, ml, ak, dy, br, ad, dp, lm, rs, len, P, a, n, rfl, rfl, n1, n2, a1, a2, hP, hK⟩ hP1 hP0
  obtain ⟨d1, d2, d3, d4⟩ := shr_rng (i := 0) n1 a1 a2
  have loop : ∀ (q i : Nat) (x5 : Int32), q = n - i → i ≤ n → x5 = iI (i : Int) → cvB P a n i = true →
      AW l 144 0 0 0 75 none Post 25 [some (.ref 0), some (.int (iI n)), some (.int (iI a)), some (.int (iI (a / (n : Int)))), some (.int (iI (a % (n : Int)))), some (.int x5)] [] (wA f s t f1 s1 t1 f2 s2 t2 tb f3 s3 t3 nu ln sp ls g ta pl pf ps pt fi hz ks tz ra rf rt la lb lc mp mv mk mo my mw ma ml ak dy br ad dp lm rs len) 0 0 := by
    intro q
    induction q using Nat.strongRecOn with
    | ind q ih =>
      intro i x5 hq hi e5 hc
      subst e5
      refine AW.go (bs := b_Appr_coverParts) [25] 70 t_Appr_coverParts ?_
      refine And.intro (fun h => ?_) (fun h => ?_)
      · rw [zc_ge (by omega) (by omega) (by omega) (by omega)] at h
        have : i = n := by omega
        subst this
        rw [hc] at hK
        exact And.intro (Or.inr rfl) (hP0 _ hK)
      rw [zc_ge (by omega) (by omega) (by omega) (by omega)] at h
      obtain ⟨p1, p2, p3⟩ := hP i (by omega)
      refine And.intro (zN_in (by omega) (by omega)) ?_
      show _ ∧ _
      rw [zN_cl (by omega), p1]
      refine And.intro (fun h2 => ?_) (fun h2 => ?_)
      · rw [zc_ge (by omega) (by omega) (by omega) (by omega)] at h2
        have es : shr a n i = a / (n : Int) := by unfold shr; rw [if_neg (by omega)]
        refine And.symm (And.intro (fun h3 => ?_) (fun h3 => ?_))
        · rw [zc_ge (by omega) (by omega) (by omega) (by omega)] at h3
          rw [cvB_false (i := i + 1) (by rw [cvB, decide_eq_false (by omega), Bool.and_false]) n (by omega)] at hK
          exact And.intro (Or.inl rfl) (hP0 _ hK)
        · rw [zc_ge (by omega) (by omega) (by omega) (by omega)] at h3
          exact ih _ (by omega) (i + 1) _ rfl (by omega) (zn_inc i) (by rw [cvB, hc, decide_eq_true (by omega)]; rfl)
      · rw [zc_ge (by omega) (by omega) (by omega) (by omega)] at h2
        have es : shr a n i = a / (n : Int) + 1 := by unfold shr; rw [if_pos (by omega)]
        show _ ∧ _
        rw [zn_i 1, iI_add]
        refine And.symm (And.intro (fun h3 => ?_) (fun h3 => ?_))
        · rw [zc_ge (by omega) (by omega) (by omega) (by omega)] at h3
          rw [cvB_false (i := i + 1) (by rw [cvB, decide_eq_false (by omega), Bool.and_false]) n (by omega)] at hK
          exact And.intro (Or.inl rfl) (hP0 _ hK)
        · rw [zc_ge (by omega) (by omega) (by omega) (by omega)] at h3
          exact ih _ (by omega) (i + 1) _ rfl (by omega) (zn_inc i) (by rw [cvB, hc, decide_eq_true (by omega)]; rfl)
  refine AW.go (bs := b_Appr_coverParts) [25] 70 t_Appr_coverParts ?_
  refine And.intro (fun h => ?_) (fun h => ?_)
  · rw [zn_i, zc_lt (by omega) (by omega) (by omega) (by omega)] at h; omega
  refine And.symm (And.intro (fun h => ?_) (fun h => ?_))
  · rw [zn_i, zc_le (by omega) (by omega) (by omega) (by omega)] at h; omega
  have nz : ¬ iI (n : Int) = 0 := by rw [iI_0, iI_inj (by omega) (by omega) (by omega) (by omega)]; omega
  refine And.intro nz ?_
  refine And.intro nz ?_
  show AW _ _ _ _ _ _ _ _ _ _ _ _ _ _
  rw [iI_rem (by omega) (by omega) (by omega) (by omega), iI_div (by omega) (by omega) (by omega) (by omega)]
  exact loop _ 0 _ rfl (by omega) rfl rfl
/-- the limit of the step that a part comes to -/
def dgP (M : Od) (m : Mt) (o : Nat) (y : Int) (i : Nat) : Int := sC (stepF M m o (y + i * ((M.2.2 0 : Int) + 1))) 0 3
def dgF (M : Od) (m : Mt) (o : Nat) (a y : Int) : Nat → Nat → Int
  | 0, _ => -2
  | q + 1, n => if (n : Int) ≤ 40 ∧ (n : Int) ≤ a then (if 1000 ≤ y + ((n : Int) - 1) * ((M.2.2 0 : Int) + 1) then -2 else if cvB (dgP M m o y) a n n then (n : Int) else dgF M m o a y q (n + 1)) else -2
def q_dodge (M : Od) (p o q a y : Int) : Int := if 0 ≤ p ∧ p ≤ 15 ∧ 0 ≤ o ∧ o < M.1 4 ∧ 0 ≤ q ∧ q ≤ 29 ∧ 1 ≤ a ∧ a ≤ 9999 ∧ 0 ≤ y ∧ y ≤ 999 then dgF M (mtQ p q) o.toNat a y 41 1 else -1
theorem mtQ_ok {p q : Int} (h0 : -1 ≤ p) (h1 : p ≤ 15) (h2 : 0 ≤ q) (h3 : q ≤ 29) : mOK (mtQ p q) := by
  unfold mOK ir mtQ mP mV mK mA mL
  refine ⟨⟨?_, ?_⟩, ⟨?_, ?_⟩, ?_, ?_, ⟨?_, ?_⟩, ⟨?_, ?_⟩⟩ <;> (try simp only []) <;> omega
set_option maxRecDepth 20000 in
theorem v_dodge (l : Launch) : z_V l 111 (sp5 40 (qp5 q_dodge)) := by
  refine z_V.ofP (by decide +kernel) ?_
  rintro as σ K Post ⟨S, ⟨hOS, f, s, t, f1, s1, t1, f2, s2, t2, tb, f3, s3, t3, nu, ln, sp, ls, g, ta, pl, pf, ps, pt, fi, hz, ks, tz, ra, rf, rt, la, lb, lc, mp, mv, mk, mo, my, mw, ma, ml, ak, dy, br, ad, dp, lm, rs, len, rfl, hAR⟩, p, o, q, a, y, rfl, ⟨p1, p2⟩, ⟨o1, o2⟩, ⟨q1, q2⟩, ⟨a1, a2⟩, ⟨y1, y2⟩, hK⟩ hP1 hP0
  obtain ⟨hR, ⟨fq, rfl, hPR⟩, rfl, rfl, a5, a6, rfl, a8⟩ := id hAR
  have hO := hOS.1
  have hx4 := hO.2.2.2.2.2.2.2.2.2 4 (by omega)
  rw [x_4] at hx4
  have hx5 := hO.2.2.2.2.2.2.2.2.2 5 (by omega)
  rw [x_5] at hx5
  unfold qp5 q_dodge at hK
  simp only [] at hK
  have fail : Unit → ¬ (0 ≤ p ∧ p ≤ 15 ∧ 0 ≤ o ∧ o < S.1.1 4 ∧ 0 ≤ q ∧ q ≤ 29 ∧ 1 ≤ a ∧ a ≤ 9999 ∧ 0 ≤ y ∧ y ≤ 999) → Post (some (.int (iI (-1)))) (wA f s t f1 s1 t1 f2 s2 t2 tb f3 s3 t3 nu ln sp ls g ta pl pf ps pt (iI fq) (iI S.2.1.length) (iI (kmask S.2.2.1 : Nat)) (iI S.2.2.2.1) ra rf rt la lb lc mp mv mk mo my mw ma ml ak dy br ad dp lm rs len) := by
    intro _ hn; rw [if_neg hn] at hK; exact hP1 _ _ (hK _ (isA.mk hOS hAR))
  have b0 := hO.2.2.2.2.2.2.1
  have loop : ∀ j : Nat, o = (j : Int) → (0 ≤ p ∧ p ≤ 15 ∧ 0 ≤ o ∧ o < S.1.1 4 ∧ 0 ≤ q ∧ q ≤ 29 ∧ 1 ≤ a ∧ a ≤ 9999 ∧ 0 ≤ y ∧ y ≤ 999) → ∀ (u n : Nat) (x7 : Int32) (v8 : Option Value) (sp ls ln pl : Nat → Int32) (ak dy br ad dp lm rs len : Int32), n + u = 42 → 1 ≤ n → x7 = iI (n : Int) → (∀ i, i < n - 1 → pl i = iI (dgP S.1 (mtQ p q) j y i)) → dgF S.1 (mtQ p q) j a y u n = dgF S.1 (mtQ p q) j a y 41 1 →
      AW l 111 40 0 0 75 none Post 76 [some (.ref 0), some (.int (iI p)), some (.int (iI o)), some (.int (iI q)), some (.int (iI a)), some (.int (iI y)), some (.int (iI ((S.1.2.2 0 : Int) + 1))), some (.int x7), v8] [] (wA f s t f1 s1 t1 f2 s2 t2 tb f3 s3 t3 nu ln sp ls g ta pl pf ps pt (iI fq) (iI S.2.1.length) (iI (kmask S.2.2.1 : Nat)) (iI S.2.2.2.1) ra rf rt la lb lc (iI p) (iI (q % 10)) (iI (q / 10)) (iI 0) (iI 0) (iI 0) (iI (-1)) (iI (-1)) ak dy br ad dp lm rs len) 0 0 := by
    intro j hj hc u
    subst hj
    rw [if_pos hc, Int.toNat_natCast] at hK
    have hj4 : j < S.1.1 4 := by omega
    have hm := mtQ_ok (p := p) (q := q) (by omega) (by omega) (by omega) (by omega)
    induction u with
    | zero =>
      intro n x7 v8 sp ls ln pl ak dy br ad dp lm rs len hu hn e7 hpl hv
      subst e7
      rw [dgF] at hv
      rw [← hv] at hK
      refine AW.go (bs := b_Appr_dodge) [76] 80 t_Appr_dodge ?_
      refine And.intro (fun h => ?_) (fun h => ?_)
      · exact hP1 _ _ (hK _ (isA.mk hOS hAR))
      · rw [zn_i, zc_gt (by omega) (by omega) (by omega) (by omega)] at h; omega
    | succ u ih =>
      intro n x7 v8 sp ls ln pl ak dy br ad dp lm rs len hu hn e7 hpl hv
      subst e7
      rw [dgF] at hv
      refine AW.go (bs := b_Appr_dodge) [76] 80 t_Appr_dodge ?_
      refine And.intro (fun h => ?_) (fun h => ?_)
      · rw [zn_i, zc_gt (by omega) (by omega) (by omega) (by omega)] at h
        rw [if_neg (by omega)] at hv
        rw [← hv] at hK
        exact hP1 _ _ (hK _ (isA.mk hOS hAR))
      rw [zn_i, zc_gt (by omega) (by omega) (by omega) (by omega)] at h
      refine And.intro (fun h => ?_) (fun h => ?_)
      · rw [zc_gt (by omega) (by omega) (by omega) (by omega)] at h
        rw [if_neg (by omega)] at hv
        rw [← hv] at hK
        exact hP1 _ _ (hK _ (isA.mk hOS hAR))
      rw [zc_gt (by omega) (by omega) (by omega) (by omega)] at h
      rw [if_pos (by omega)] at hv
      have hmul : 0 ≤ ((n : Int) - 1) * ((S.1.2.2 0 : Int) + 1) ∧ ((n : Int) - 1) * ((S.1.2.2 0 : Int) + 1) ≤ 4000 := by
        refine ⟨Int.mul_nonneg (by omega) (by omega), ?_⟩
        have : ((n : Int) - 1) * ((S.1.2.2 0 : Int) + 1) ≤ 40 * 100 := Int.mul_le_mul (by omega) (by omega) (by omega) (by omega)
        omega
      show _ ∧ _
      rw [zn_i 1, iI_sub, iI_mul, iI_add]
      rw [show ((1 : Nat) : Int) = 1 from rfl]
      refine And.symm (And.intro (fun h2 => ?_) (fun h2 => ?_))
      · rw [zn_i, zc_lt (by omega) (by omega) (by omega) (by omega)] at h2
        rw [if_pos (by omega)] at hv
        rw [← hv] at hK
        exact hP1 _ _ (hK _ (isA.mk hOS hAR))
      rw [zn_i, zc_lt (by omega) (by omega) (by omega) (by omega)] at h2
      rw [if_neg (by omega)] at hv
      refine ⟨_, v_limitOfFirstStep l, by decide, _, _, _, f, s, t, S.1, mtQ p q, j, y + ((n : Int) - 1) * ((S.1.2.2 0 : Int) + 1), 0, _, _, _, _, _, _, _, _, _, _, rfl, rfl, hR, hO, hm, hj4, by omega, by omega, ⟨by omega, by omega⟩, fun sp' ls' ln' ak' dy' br' ad' dp' lm' rs' len' => ?_⟩
      have ein : iI (n : Int) - z_nn 1 0 = iI ((n - 1 : Nat) : Int) := by rw [zn_i, iI_sub]; congr 1; omega
      have ep : sC (stepF S.1 (mtQ p q) j (y + ((n : Int) - 1) * ((S.1.2.2 0 : Int) + 1))) 0 3 = dgP S.1 (mtQ p q) j y (n - 1) := by
        unfold dgP; rw [show ((n - 1 : Nat) : Int) = (n : Int) - 1 by omega]
      show _ ∧ _
      rw [ep, ein]
      refine And.intro (zN_in (by omega) (by omega)) ?_
      show ∃ sp : Sp, _
      rw [zN_cl (by omega)]
      have hpl' : ∀ i, i < n → upd pl (n - 1) (iI (dgP S.1 (mtQ p q) j y (n - 1))) i = iI (dgP S.1 (mtQ p q) j y i) := by
        intro i hi
        unfold upd
        by_cases e : i = n - 1
        · rw [if_pos e, e]
        · rw [if_neg e]; exact hpl i (by omega)
      have hrg : ∀ i, i < n → -2 ≤ dgP S.1 (mtQ p q) j y i ∧ dgP S.1 (mtQ p q) j y i ≤ 9999 := by
        intro i hi
        have hle : (i : Int) * ((S.1.2.2 0 : Int) + 1) ≤ ((n : Int) - 1) * ((S.1.2.2 0 : Int) + 1) := Int.mul_le_mul_of_nonneg_right (by omega) (by omega)
        have hge : 0 ≤ (i : Int) * ((S.1.2.2 0 : Int) + 1) := Int.mul_nonneg (by omega) (by omega)
        exact sC_rng (stepF_ok hO hm hj4 (by omega) (by omega)) 0 3
      refine callA (fun _ => rfl) (v_coverParts l) (by decide) rfl ⟨_, _, _, _, _, _, _, _, _, _, _, _, _, _, _, _, _, _, _, _, _, _, _, _, _, _, _, _, _, _, _, _, _, _, _, _, _, _, _, _, _, _, _, _, _, _, _, _, _, dgP S.1 (mtQ p q) j y, a, n, rfl, rfl, hn, by omega, by omega, by omega, fun i hi => ⟨hpl' i hi, hrg i hi⟩, ?_⟩
      refine And.symm (And.intro (fun h3 => ?_) (fun h3 => ?_))
      · rw [zc_beq, Bool.not_eq_false] at h3
        rw [if_pos h3] at hv
        rw [← hv] at hK
        exact hP1 _ _ (hK _ (isA.mk hOS hAR))
      · rw [zc_beq] at h3
        rw [if_neg (by rw [h3]; decide)] at hv
        exact ih (n + 1) _ _ _ _ _ _ _ _ _ _ _ _ _ _ (by omega) (by omega) (zn_inc n) (fun i hi => hpl' i (by omega)) hv
  refine AW.go (bs := b_Appr_dodge) [76] 80 t_Appr_dodge ?_
  refine ⟨_, v_isPerson l, by decide, rfl, p, rfl, ⟨p1, p2⟩, ?_⟩
  refine And.intro (fun h => ?_) (fun h => ?_)
  · rw [zc_beq, decide_eq_false_iff_not] at h; exact fail () (by omega)
  rw [zc_beq, decide_eq_false_iff_not, Classical.not_not] at h
  refine ⟨_, v_has l, by decide, f, s, t, rfl, S.1, 4, o, rfl, hR, by omega, ⟨o1, o2⟩, ?_⟩
  refine And.intro (fun h => ?_) (fun h => ?_)
  · rw [zc_beq, decide_eq_false_iff_not] at h; exact fail () (by omega)
  rw [zc_beq, decide_eq_false_iff_not, Classical.not_not] at h
  refine ⟨_, v_isWhich l, by decide, rfl, q, rfl, ⟨q1, q2⟩, ?_⟩
  refine And.intro (fun h => ?_) (fun h => ?_)
  · rw [zc_beq, decide_eq_false_iff_not] at h; exact fail () (by omega)
  rw [zc_beq, decide_eq_false_iff_not, Classical.not_not] at h
  refine ⟨_, v_isAmount l, by decide, rfl, a, rfl, ⟨a1, a2⟩, ?_⟩
  refine And.intro (fun h => ?_) (fun h => ?_)
  · rw [zc_beq, decide_eq_false_iff_not] at h; exact fail () (by omega)
  rw [zc_beq, decide_eq_false_iff_not, Classical.not_not] at h
  refine ⟨_, v_isDay l, by decide, rfl, y, rfl, ⟨y1, y2⟩, ?_⟩
  refine And.symm (And.intro (fun h => ?_) (fun h => ?_))
  · rw [zc_bne, decide_eq_true_eq] at h; exact fail () (by omega)
  rw [zc_bne, decide_eq_true_eq] at h
  refine And.intro (by decide) ?_
  refine And.intro (by decide) ?_
  show ∃ sp : Sp, _
  rw [zn_i 10, iI_rem (by omega) (by omega) (by omega) (by omega), iI_div (by omega) (by omega) (by omega) (by omega)]
  refine ⟨_, v_begin l, by decide, mp, mv, mk, mo, my, mw, ma, ml, _, _, _, rfl, rfl, ?_⟩
  refine And.intro (zn_in (by omega) (by omega)) ?_
  show AW _ _ _ _ _ _ _ _ _ _ _ _ _ _
  rw [zn_cl (by omega), hR.2.2 0 (by omega), zn_i 1, iI_add]
  obtain ⟨j, rfl⟩ : ∃ j : Nat, o = (j : Int) := ⟨o.toNat, by omega⟩
  exact loop j rfl (by omega) 41 1 _ _ _ _ _ _ _ _ _ _ _ _ _ _ (by omega) (by omega) rfl (fun i hi => by omega) rfl
