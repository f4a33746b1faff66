noncomputable def rA (M : Od) (r p : Nat) : List SE := rqA M r (p : Int)
/-- does a request fall by someone's absence who does a step of it -/
noncomputable def plB (M : Od) (r p : Nat) : Bool := (!recd M r && apd M r) && ((doF (wq M r) (rq M r) 0).testBit p && !decide (lC (rA M r p) (wq M r) 4 = 0))
theorem rA_ok {M : Od} (hO : OKM M) {r : Nat} (hr : r < M.1 5) {p : Nat} (hp : p < 16) : (∀ e ∈ rA M r p, rOK e) ∧ (rA M r p).length ≤ 12 := routeF_ok hO (mtA_ok hO hr ⟨by omega, by omega⟩) _ 12 _ _ (by have := hO.2.2.2.2.2.1 r hr; omega)
theorem doF_lt (w : Int) : ∀ (R : List SE) (g : Nat), g < 65536 → doF w R g < 65536
  | [], g, h => h
  | e :: R, g, h => doF_lt w R _ (Nat.or_lt_two_pow (n := 16) h (bitI_lt _))
def sp_tallyPillars : Sp := (34, 0, 0, pA, fun as σ K => ∃ (f s t f1 s1 t1 f2 s2 t2 tb f3 s3 t3 nu ln sp ls g ta pl : Nat → Int32) (pf ps pt : Nat → Nat → Int32) (fi hz ks tz ra rf rt la lb lc mp mv mk mo my mw ma ml ak dy br ad dp lm rs len : Int32) (M : Od) (r : Nat) (T : Nat → Nat), as = [.ref 0, .int (iI r)] ∧ σ = (wA f s t f1 s1 t1 f2 s2 t2 tb f3 s3 t3 nu ln sp ls g ta pl pf ps pt fi hz ks tz ra rf rt la lb lc mp mv mk mo my mw ma ml ak dy br ad dp lm rs len) ∧ RS f s t M ∧ OKM M ∧ r < M.1 5 ∧ recd M r = false ∧ (∀ p, p < 16 → ta p = iI (T p : Nat) ∧ T p ≤ 1000) ∧ ∀ (sp' ls' ln' ta' : Nat → Int32) (mp' mv' mk' mo' my' mw' ma' ml' ak' dy' br' ad' dp' lm' rs' len' : Int32), (∀ p, p < 16 → ta' p = iI (T p + (if plB M r p then 1 else 0) : Nat)) → K none (some (wA f s t f1 s1 t1 f2 s2 t2 tb f3 s3 t3 nu ln' sp' ls' g ta' pl pf ps pt fi hz ks tz ra rf rt la lb lc mp' mv' mk' mo' my' mw' ma' ml' ak' dy' br' ad' dp' lm' rs' len')))
set_option maxRecDepth 20000 in
theorem v_tallyPillars (l : Launch) : z_V l 142 sp_tallyPillars := by
  refine z_V.ofP (by decide +kernel) ?_
  rintro as σ K Post ⟨f, s, t, f1, s1, t1, f2, s2, t2, tb, f3, s3, t3, nu, ln, sp, ls, g, ta, pl, pf, ps, pt, fi, hz, ks, tz, ra, rf, rt, la, lb, lc, mp, mv, mk, mo, my, mw, ma, ml, ak, dy, br, ad, dp, lm, rs, len, M, r, T, rfl, rfl, hR, hO, hr, hrec, hT, hK⟩ hP1 hP0
  have hx4 := hO.2.2.2.2.2.2.2.2.2 4 (by omega)
  rw [x_4] at hx4
  have hc := hO.2.2.2.2.2.1 r hr
  have hw := whF_rng hO hr (M.2.1 5 r 5)
  have hwq : 1 ≤ wq M r ∧ wq M r ≤ 500000 := hw
  have hq := rq_ok hO hr
  have hdo := doF_lt (wq M r) (rq M r) 0 (by omega)
  have loop : ∀ (n i : Nat) (x3 xa : Int32) (sp ls ln ta : Nat → Int32) (ak dy br ad dp lm rs len : Int32), apd M r = true → n = 16 - i → i ≤ 16 → x3 = iI (i : Int) → (∀ p, p < 16 → ta p = iI (T p + (if decide (p < i) && plB M r p then 1 else 0) : Nat)) →
      AW l 142 34 0 0 75 none Post 33 [some (.ref 0), some (.int (iI r)), some (.int (iI (doF (wq M r) (rq M r) 0 : Nat))), some (.int x3)] [] (wA f s t f1 s1 t1 f2 s2 t2 tb f3 s3 t3 nu ln sp ls g ta pl pf ps pt fi hz ks tz ra rf rt la lb lc (iI (M.2.1 5 r 0)) (iI (M.2.1 5 r 2)) (iI (M.2.1 5 r 3)) (iI (M.2.1 5 r 1)) (iI (M.2.1 5 r 5)) (iI (wq M r)) xa (iI (-1)) ak dy br ad dp lm rs len) 0 0 := by
    intro n
    induction n using Nat.strongRecOn with
    | ind n ih =>
      intro i x3 xa sp ls ln ta ak dy br ad dp lm rs len hap hn hi e3 hta
      subst e3
      refine AW.go (bs := b_Appr_tallyPillars) [33] 70 t_Appr_tallyPillars ?_
      refine And.intro (fun h => ?_) (fun h => ?_)
      · rw [zn_i, zc_ge (by omega) (by omega) (by omega) (by omega)] at h
        have : i = 16 := by omega
        subst this
        refine hP1 _ _ (hK _ _ _ _ _ _ _ _ _ _ _ _ _ _ _ _ _ _ _ _ (fun p hp => ?_))
        rw [hta p hp, decide_eq_true hp, Bool.true_and]
      rw [zn_i, zc_ge (by omega) (by omega) (by omega) (by omega)] at h
      have hi16 : i < 16 := by omega
      have keep : plB M r i = false → ∀ p, p < 16 → (T p + (if decide (p < i) && plB M r p then 1 else 0) : Nat) = T p + (if decide (p < i + 1) && plB M r p then 1 else 0) := by
        intro h0 p hp
        by_cases e : p = i
        · rw [e, h0, Bool.and_false, Bool.and_false]
        · rw [show decide (p < i) = decide (p < i + 1) from decide_eq_decide.mpr (by omega)]
      refine ⟨_, v_isIn l, by decide, rfl, doF (wq M r) (rq M r) 0, i, rfl, by omega, by omega, ?_⟩
      refine And.intro (fun h => ?_) (fun h => ?_)
      · rw [zc_beq] at h
        refine ih _ (by omega) (i + 1) _ _ _ _ _ _ _ _ _ _ _ _ _ _ hap rfl (by omega) (zn_inc i) (fun p hp => ?_)
        rw [hta p hp, keep (by rw [plB, h, Bool.false_and, Bool.and_false]) p hp]
      rw [zc_beq, Bool.not_eq_false] at h
      have hra := rA_ok hO hr hi16
      refine ⟨_, v_follow l, by decide, _, _, _, f, s, t, M, mtA M r (i : Int), M.2.1 5 r 1, M.2.1 5 r 5, wq M r, _, _, _, _, _, _, _, _, rfl, rfl, hR, hO, mtA_ok hO hr ⟨by omega, by omega⟩, ⟨by omega, by omega⟩, by omega, by omega, ⟨by omega, by omega⟩, fun sp' ls' ln' ak' dy' br' ad' dp' lm' rs' hRR => ?_⟩
      refine And.intro (zN_in hi16 (by omega)) ?_
      refine ⟨_, v_isApproved l, by decide, _, _, _, _, _, _, _, _, _, _, _, _, _, wq M r, rA M r i, rfl, hRR, hra.2, hra.1, rfl, ?_⟩
      have hTi := hT i hi16
      refine And.intro (fun h2 => ?_) (fun h2 => ?_)
      · rw [zc_beq] at h2
        refine And.intro (zN_in hi16 (by omega)) ?_
        show AW _ _ _ _ _ _ _ _ _ _ _ _ _ _
        rw [zN_cl (by omega), hta i hi16]
        refine ih _ (by omega) (i + 1) _ _ _ _ _ _ _ _ _ _ _ _ _ _ hap rfl (by omega) (zn_inc i) (fun p hp => ?_)
        unfold upd
        by_cases e : p = i
        · rw [if_pos e, e, decide_eq_false (Nat.lt_irrefl i), decide_eq_true (Nat.lt_succ_self i), Bool.false_and, Bool.true_and, plB, hrec, hap, h, h2, zn_i, iI_add]
          rfl
        · rw [if_neg e, hta p hp, show decide (p < i) = decide (p < i + 1) from decide_eq_decide.mpr (by omega)]
      · rw [zc_beq, Bool.not_eq_false] at h2
        refine And.intro (zN_in hi16 (by omega)) ?_
        show AW _ _ _ _ _ _ _ _ _ _ _ _ _ _
        rw [zN_cl (by omega), hta i hi16]
        have h0 : plB M r i = false := by rw [plB, h2, Bool.not_true, Bool.and_false, Bool.and_false]
        refine ih _ (by omega) (i + 1) _ _ _ _ _ _ _ _ _ _ _ _ _ _ hap rfl (by omega) (zn_inc i) (fun p hp => ?_)
        unfold upd
        by_cases e : p = i
        · rw [if_pos e, keep h0 i hi16, e, zn_i, iI_add]
          first | rfl | (congr 1; done) | (congr 1; omega)
        · rw [if_neg e, hta p hp, keep h0 p hp]
  refine AW.go (bs := b_Appr_tallyPillars) [33] 70 t_Appr_tallyPillars ?_
  show ∃ sp : Sp, _
  refine callA (fun _ => rfl) (v_matterOf l) (by decide) rfl ⟨_, _, _, _, _, _, _, _, _, _, _, _, _, _, _, _, _, _, _, _, _, _, _, _, _, _, _, _, _, _, _, _, _, _, _, _, _, _, _, _, _, _, _, _, _, _, _, _, _, M, r, rfl, rfl, hR, hO, hr, kkR isW isW ?_⟩
  refine ⟨_, v_follow l, by decide, _, _, _, f, s, t, M, mtR M r, M.2.1 5 r 1, M.2.1 5 r 5, wq M r, _, _, _, _, _, _, _, _, rfl, rfl, hR, hO, mtR_ok hO hr, ⟨by omega, by omega⟩, by omega, by omega, ⟨by omega, by omega⟩, fun sp' ls' ln' ak' dy' br' ad' dp' lm' rs' hRR => ?_⟩
  refine ⟨_, v_isApproved l, by decide, _, _, _, _, _, _, _, _, _, _, _, _, _, wq M r, rq M r, rfl, hRR, hq.2, hq.1, rfl, ?_⟩
  refine And.symm (And.intro (fun h => ?_) (fun h => ?_))
  · rw [zc_bne, Bool.not_eq_true] at h
    refine hP1 _ _ (hK _ _ _ _ _ _ _ _ _ _ _ _ _ _ _ _ _ _ _ _ (fun p hp => ?_))
    rw [(hT p hp).1, plB, apd, h, Bool.and_false, Bool.false_and]; rfl
  rw [zc_bne] at h
  refine ⟨_, v_doers l, by decide, _, _, _, _, _, _, _, _, _, _, _, _, _, wq M r, rq M r, rfl, hRR, hq.2, hq.1, rfl, ?_⟩
  refine loop _ 0 _ _ _ _ _ _ _ _ _ _ _ _ _ _ h rfl (by omega) rfl (fun p hp => ?_)
  rw [(hT p hp).1, decide_eq_false (Nat.not_lt_zero p), Bool.false_and]; rfl
/-- how many of the first n requests fall by someone -/
noncomputable def plF (M : Od) (p n : Nat) : Nat := cntF (fun r => plB M r p) n
noncomputable def q_pillar (M : Od) (c : Int) : Int := if 0 ≤ c ∧ c ≤ 1 then ofT (fun p => plF M p (M.1 5)) c else -1
set_option maxRecDepth 20000 in
theorem v_pillar (l : Launch) : z_V l 110 (sp1 40 (qp q_pillar)) := by
  refine z_V.ofP (by decide +kernel) ?_
  rintro as σ K Post ⟨S, ⟨hOS, f, s, t, f1, s1, t1, f2, s2, t2, tb, f3, s3, t3, nu, ln, sp, ls, g, ta, pl, pf, ps, pt, fi, hz, ks, tz, ra, rf, rt, la, lb, lc, mp, mv, mk, mo, my, mw, ma, ml, ak, dy, br, ad, dp, lm, rs, len, rfl, hAR⟩, c, rfl, ⟨c1, c2⟩, hK⟩ hP1 hP0
  obtain ⟨hR, ⟨fq, rfl, hPR⟩, rfl, rfl, a5, a6, rfl, a8⟩ := id hAR
  have hO := hOS.1
  have hx4 := hO.2.2.2.2.2.2.2.2.2 4 (by omega)
  rw [x_4] at hx4
  have hx5 := hO.2.2.2.2.2.2.2.2.2 5 (by omega)
  rw [x_5] at hx5
  unfold qp q_pillar at hK
  simp only [] at hK
  have fail : Unit → ¬ (0 ≤ c ∧ c ≤ 1) → Post (some (.int (iI (-1)))) (wA f s t f1 s1 t1 f2 s2 t2 tb f3 s3 t3 nu ln sp ls g ta pl pf ps pt (iI fq) (iI S.2.1.length) (iI (kmask S.2.2.1 : Nat)) (iI S.2.2.2.1) ra rf rt la lb lc mp mv mk mo my mw ma ml ak dy br ad dp lm rs len) := by
    intro _ hn; rw [if_neg hn] at hK; exact hP1 _ _ (hK _ (isA.mk hOS hAR))
  have hs := hR.size 5 (by omega)
  have loop : ∀ (n i : Nat) (x2 : Int32) (sp ls ln ta : Nat → Int32) (mp mv mk mo my mw ma ml ak dy br ad dp lm rs len : Int32), (0 ≤ c ∧ c ≤ 1) → n = S.1.1 5 - i → i ≤ S.1.1 5 → x2 = iI (i : Int) → (∀ p, p < 16 → ta p = iI (plF S.1 p i : Nat)) →
      AW l 110 40 0 0 75 none Post 17 [some (.ref 0), some (.int (iI c)), some (.int x2)] [] (wA f s t f1 s1 t1 f2 s2 t2 tb f3 s3 t3 nu ln sp ls g ta pl pf ps pt (iI fq) (iI S.2.1.length) (iI (kmask S.2.2.1 : Nat)) (iI S.2.2.2.1) ra rf rt la lb lc mp mv mk mo my mw ma ml ak dy br ad dp lm rs len) 0 0 := by
    intro n
    induction n using Nat.strongRecOn with
    | ind n ih =>
      intro i x2 sp ls ln ta mp mv mk mo my mw ma ml ak dy br ad dp lm rs len hc hn hi e2 hta
      subst e2
      have hle : ∀ p, plF S.1 p i ≤ i := fun p => cntF_le _ _
      refine AW.go (bs := b_Appr_pillar) [17] 70 t_Appr_pillar ?_
      refine And.intro (zn_in (by omega) (by omega)) ?_
      refine And.intro (fun h => ?_) (fun h => ?_)
      · rw [zn_cl (by omega), hs, zc_ge (by omega) (by omega) (by omega) (by omega)] at h
        have : i = S.1.1 5 := by omega
        subst this
        rw [if_pos hc] at hK
        show ∃ sp : Sp, _
        refine callA (fun _ => rfl) (v_ofTally l) (by decide) rfl ⟨_, _, _, _, _, _, _, _, _, _, _, _, _, _, _, _, _, _, _, _, _, _, _, _, _, _, _, _, _, _, _, _, _, _, _, _, _, _, _, _, _, _, _, _, _, _, _, _, _, fun p => plF S.1 p (S.1.1 5), c, rfl, rfl, fun p hp => ⟨hta p hp, by have := hle p; show plF S.1 p (S.1.1 5) ≤ 100000; omega⟩, ⟨c1, c2⟩, ?_⟩
        exact hP1 _ _ (hK _ (isA.mk hOS hAR))
      rw [zn_cl (by omega), hs, zc_ge (by omega) (by omega) (by omega) (by omega)] at h
      have hr : i < S.1.1 5 := by omega
      refine ⟨_, v_isRecalled l, by decide, f, s, t, rfl, S.1, i, rfl, hR, hO, hr, ?_⟩
      refine And.intro (fun h => ?_) (fun h => ?_)
      · rw [zc_bne] at h
        refine ih _ (by omega) (i + 1) _ _ _ _ _ _ _ _ _ _ _ _ _ _ _ _ _ _ _ _ _ hc rfl (by omega) (zn_inc i) (fun p hp => ?_)
        rw [hta p hp, plF, plF, cntF, show plB S.1 i p = false by rw [plB, recd, h]; rfl]; rfl
      rw [zc_bne, Bool.not_eq_true] at h
      show ∃ sp : Sp, _
      refine callA (fun _ => rfl) (v_tallyPillars l) (by decide) rfl ⟨_, _, _, _, _, _, _, _, _, _, _, _, _, _, _, _, _, _, _, _, _, _, _, _, _, _, _, _, _, _, _, _, _, _, _, _, _, _, _, _, _, _, _, _, _, _, _, _, _, S.1, i, fun p => plF S.1 p i, rfl, rfl, hR, hO, hr, h, fun p hp => ⟨hta p hp, by have := hle p; show plF S.1 p i ≤ 1000; omega⟩, fun sp' ls' ln' ta' mp' mv' mk' mo' my' mw' ma' ml' ak' dy' br' ad' dp' lm' rs' len' hta' => kkV isW isW ?_⟩
      refine ih _ (by omega) (i + 1) _ _ _ _ _ _ _ _ _ _ _ _ _ _ _ _ _ _ _ _ _ hc rfl (by omega) (zn_inc i) (fun p hp => ?_)
      rw [hta' p hp]
      congr 2
      unfold plF
      rw [cntF]
      split <;> simp_all
  refine AW.go (bs := b_Appr_pillar) [17] 70 t_Appr_pillar ?_
  refine And.intro (fun h => ?_) (fun h => ?_)
  · rw [zc_lt0 c1 c2] at h; exact fail () (by omega)
  rw [zc_lt0 c1 c2] at h
  refine And.symm (And.intro (fun h => ?_) (fun h => ?_))
  · rw [zn_i, zc_le c1 c2 (by omega) (by omega)] at h; exact fail () (by omega)
  rw [zn_i, zc_le c1 c2 (by omega) (by omega)] at h
  show ∃ sp : Sp, _
  refine callA (fun _ => rfl) (v_clearTally l) (by decide) rfl ⟨_, _, _, _, _, _, _, _, _, _, _, _, _, _, _, _, _, _, _, _, _, _, _, _, _, _, _, _, _, _, _, _, _, _, _, _, _, _, _, _, _, _, _, _, _, _, _, _, _, rfl, rfl, fun ta' h0 => kkV isW isW ?_⟩
  exact loop _ 0 _ _ _ _ _ _ _ _ _ _ _ _ _ _ _ _ _ _ _ _ _ (by omega) rfl (by omega) rfl h0
