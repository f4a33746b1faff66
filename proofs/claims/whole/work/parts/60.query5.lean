/-! the soonest of several -/
def bsD (o : Option (Nat × Int)) : Int := match o with | none => 1000 | some (_, d) => d
def bsB (o : Option (Nat × Int)) : Int := match o with | none => -2 | some (k, _) => (k : Int)
def bsF (P : Nat → Option Int) : Nat → Option (Nat × Int)
  | 0 => none
  | n + 1 => match P n with
    | none => bsF P n
    | some d => if d < bsD (bsF P n) then some (n, d) else bsF P n
theorem bsF_rng {P : Nat → Option Int} : ∀ n, (∀ k d, k < n → P k = some d → -2 ≤ d ∧ d ≤ 9999) → (-2 ≤ bsD (bsF P n) ∧ bsD (bsF P n) ≤ 9999) ∧ -2 ≤ bsB (bsF P n) ∧ bsB (bsF P n) ≤ n
  | 0, _ => by simp [bsF, bsD, bsB]
  | n + 1, h => by
    have ih := bsF_rng n (fun k d hk => h k d (by omega))
    unfold bsF
    split
    · omega
    · next d hd =>
      have := h n d (by omega) hd
      split
      · simp only [bsD, bsB]; omega
      · omega
noncomputable def cuP (M : Od) (r : Nat) (k : Nat) : Option Int := if lC (rqL M r k) (wq M r) 4 = 0 then some (lC (rqL M r k) (wq M r) 1) else none
noncomputable def cuF (M : Od) (r n : Nat) : Option (Nat × Int) := bsF (cuP M r) n
noncomputable def q_cure (M : Od) (r c : Int) : Int := if 0 ≤ r ∧ r < M.1 5 ∧ 0 ≤ c ∧ c ≤ 1 then (if c = 0 ∨ bsB (cuF M r.toNat (M.1 1)) = -2 then bsB (cuF M r.toNat (M.1 1)) else bsD (cuF M r.toNat (M.1 1))) else -1
theorem rqL_ok {M : Od} (hO : OKM M) {r : Nat} (hr : r < M.1 5) {k : Int} (hk : ir k) : (∀ e ∈ rqL M r k, rOK e) ∧ (rqL M r k).length ≤ 12 := routeF_ok hO (mtL_ok hO hr hk) _ 12 _ _ (by have := hO.2.2.2.2.2.1 r hr; omega)
set_option maxRecDepth 20000 in
theorem v_cure (l : Launch) : z_V l 106 (sp2 40 (qp2 q_cure)) := by
  refine z_V.ofP (by decide +kernel) ?_
  rintro as σ K Post ⟨S, ⟨hOS, f, s, t, f1, s1, t1, f2, s2, t2, tb, f3, s3, t3, nu, ln, sp, ls, g, ta, pl, pf, ps, pt, fi, hz, ks, tz, ra, rf, rt, la, lb, lc, mp, mv, mk, mo, my, mw, ma, ml, ak, dy, br, ad, dp, lm, rs, len, rfl, hAR⟩, r, c, rfl, ⟨r1, r2⟩, ⟨c1, c2⟩, hK⟩ hP1 hP0
  obtain ⟨hR, ⟨fq, rfl, hPR⟩, rfl, rfl, a5, a6, rfl, a8⟩ := id hAR
  have hO := hOS.1
  have hx4 := hO.2.2.2.2.2.2.2.2.2 4 (by omega)
  rw [x_4] at hx4
  have hx5 := hO.2.2.2.2.2.2.2.2.2 5 (by omega)
  rw [x_5] at hx5
  unfold qp2 q_cure at hK
  simp only [] at hK
  have fail : Unit → ¬ (0 ≤ r ∧ r < S.1.1 5 ∧ 0 ≤ c ∧ c ≤ 1) → Post (some (.int (iI (-1)))) (wA f s t f1 s1 t1 f2 s2 t2 tb f3 s3 t3 nu ln sp ls g ta pl pf ps pt (iI fq) (iI S.2.1.length) (iI (kmask S.2.2.1 : Nat)) (iI S.2.2.2.1) ra rf rt la lb lc mp mv mk mo my mw ma ml ak dy br ad dp lm rs len) := by
    intro _ hn; rw [if_neg hn] at hK; exact hP1 _ _ (hK _ (isA.mk hOS hAR))
  have hs := hR.size 1 (by omega)
  have hx1 := hR.max40 1 (by omega)
  have loop : ∀ j : Nat, r = (j : Int) → (0 ≤ r ∧ r < S.1.1 5 ∧ 0 ≤ c ∧ c ≤ 1) → ∀ (n i : Nat) (x3 x4 x5 xl : Int32) (sp ls ln : Nat → Int32) (ak dy br ad dp lm rs len : Int32), n = S.1.1 1 - i → i ≤ S.1.1 1 → x3 = iI (bsD (cuF S.1 j i)) → x4 = iI (bsB (cuF S.1 j i)) → x5 = iI (i : Int) →
      AW l 106 40 0 0 75 none Post 40 [some (.ref 0), some (.int (iI r)), some (.int (iI c)), some (.int x3), some (.int x4), some (.int x5)] [] (wA f s t f1 s1 t1 f2 s2 t2 tb f3 s3 t3 nu ln sp ls g ta pl pf ps pt (iI fq) (iI S.2.1.length) (iI (kmask S.2.2.1 : Nat)) (iI S.2.2.2.1) ra rf rt la lb lc (iI (S.1.2.1 5 j 0)) (iI (S.1.2.1 5 j 2)) (iI (S.1.2.1 5 j 3)) (iI (S.1.2.1 5 j 1)) (iI (S.1.2.1 5 j 5)) (iI (wq S.1 j)) (iI (-1)) xl ak dy br ad dp lm rs len) 0 0 := by
    intro j hj hc n
    subst hj
    rw [if_pos hc, Int.toNat_natCast] at hK
    have hr : j < S.1.1 5 := by omega
    have hc := hO.2.2.2.2.2.1 j hr
    have hw := whF_rng hO hr (S.1.2.1 5 j 5)
    have hwq : 1 ≤ wq S.1 j ∧ wq S.1 j ≤ 500000 := hw
    have hq := rq_ok hO hr
    have hbr := fun (i : Nat) (hi : i ≤ S.1.1 1) => bsF_rng (P := cuP S.1 j) i (fun k d hk hd => by
      unfold cuP at hd
      split at hd
      · cases hd; exact ⟨(lC_rng (rqL_ok hO hr ⟨by omega, by omega⟩).1 _ 1).1, (lC_rng (rqL_ok hO hr ⟨by omega, by omega⟩).1 _ 1).2⟩
      · cases hd)
    induction n using Nat.strongRecOn with
    | ind n ih =>
      intro i x3 x4 x5 xl sp ls ln ak dy br ad dp lm rs len hn hi e3 e4 e5
      subst e3; subst e4; subst e5
      have hb := hbr i hi
      rw [show bsF (cuP S.1 j) i = cuF S.1 j i from rfl] at hb
      refine AW.go (bs := b_Appr_cure) [40] 60 t_Appr_cure ?_
      refine And.intro (zn_in (by omega) (by omega)) ?_
      refine And.intro (fun h => ?_) (fun h => ?_)
      · rw [zn_cl (by omega), hs, zc_ge (by omega) (by omega) (by omega) (by omega)] at h
        have : i = S.1.1 1 := by omega
        subst this
        refine And.intro (fun h => ?_) (fun h => ?_)
        · rw [zc_eq0 c1 c2] at h
          rw [if_pos (Or.inl h)] at hK
          exact hP1 _ _ (hK _ (isA.mk hOS hAR))
        rw [zc_eq0 c1 c2] at h
        refine And.intro (fun h2 => ?_) (fun h2 => ?_)
        · have h2 := mt (zc_eq (b := -2) (by omega) (by omega) (by omega) (by omega)).mpr (fun q => h2 q)
          rw [if_neg (fun q => q.elim h h2)] at hK
          exact hP1 _ _ (hK _ (isA.mk hOS hAR))
        · have h2 := (zc_eq (b := -2) (by omega) (by omega) (by omega) (by omega)).mp (Classical.not_not.mp h2)
          rw [if_pos (Or.inr h2)] at hK
          exact hP1 _ _ (hK _ (isA.mk hOS hAR))
      rw [zn_cl (by omega), hs, zc_ge (by omega) (by omega) (by omega) (by omega)] at h
      have hm := mtL_ok hO hr (p := (i : Int)) ⟨by omega, by omega⟩
      have hx := rqL_ok hO hr (k := (i : Int)) ⟨by omega, by omega⟩
      refine ⟨_, v_follow l, by decide, _, _, _, f, s, t, S.1, mtL S.1 j i, S.1.2.1 5 j 1, S.1.2.1 5 j 5, wq S.1 j, _, _, _, _, _, _, _, _, rfl, rfl, hR, hO, hm, ⟨by omega, by omega⟩, by omega, by omega, ⟨by omega, by omega⟩, fun sp' ls' ln' ak' dy' br' ad' dp' lm' rs' hRR => ?_⟩
      have hl1 := lC_rng hx.1 (wq S.1 j) 1
      have ecu : cuF S.1 j (i + 1) = (match cuP S.1 j i with | none => cuF S.1 j i | some d => if d < bsD (cuF S.1 j i) then some (i, d) else cuF S.1 j i) := rfl
      refine ⟨_, v_isApproved l, by decide, _, _, _, _, _, _, _, _, _, _, _, _, _, wq S.1 j, rqL S.1 j i, rfl, hRR, hx.2, hx.1, rfl, ?_⟩
      refine And.intro (fun h => ?_) (fun h => ?_)
      · rw [zc_beq, decide_eq_false_iff_not] at h
        have ep : cuP S.1 j i = none := by unfold cuP; rw [if_neg h]
        rw [ep] at ecu
        simp only [] at ecu
        exact ih _ (by omega) (i + 1) _ _ _ _ _ _ _ _ _ _ _ _ _ _ _ rfl (by omega) (by rw [ecu]) (by rw [ecu]) (zn_inc i)
      rw [zc_beq, decide_eq_false_iff_not, Classical.not_not] at h
      have ep : cuP S.1 j i = some (lC (rqL S.1 j i) (wq S.1 j) 1) := by unfold cuP; rw [if_pos h]
      rw [ep] at ecu
      simp only [] at ecu
      refine ⟨_, v_lastCell l, by decide, _, _, _, _, _, _, _, _, _, _, _, _, _, wq S.1 j, rqL S.1 j i, rfl, hRR, hx.2, 1, rfl, by omega, ?_⟩
      refine And.intro (fun h2 => ?_) (fun h2 => ?_)
      · rw [zc_ge (by omega) (by omega) (by omega) (by omega)] at h2
        rw [if_neg (by omega)] at ecu
        exact ih _ (by omega) (i + 1) _ _ _ _ _ _ _ _ _ _ _ _ _ _ _ rfl (by omega) (by rw [ecu]) (by rw [ecu]) (zn_inc i)
      · rw [zc_ge (by omega) (by omega) (by omega) (by omega)] at h2
        rw [if_pos (by omega)] at ecu
        refine ⟨_, v_lastCell l, by decide, _, _, _, _, _, _, _, _, _, _, _, _, _, wq S.1 j, rqL S.1 j i, rfl, hRR, hx.2, 1, rfl, by omega, ?_⟩
        exact ih _ (by omega) (i + 1) _ _ _ _ _ _ _ _ _ _ _ _ _ _ _ rfl (by omega) (by rw [ecu]; rfl) (by rw [ecu]; rfl) (zn_inc i)
  refine AW.go (bs := b_Appr_cure) [40] 60 t_Appr_cure ?_
  refine ⟨_, v_has l, by decide, f, s, t, rfl, S.1, 5, r, rfl, hR, by omega, ⟨r1, r2⟩, ?_⟩
  refine And.intro (fun h => ?_) (fun h => ?_)
  · rw [zc_beq, decide_eq_false_iff_not] at h; exact fail () (by omega)
  rw [zc_beq, decide_eq_false_iff_not, Classical.not_not] at h
  refine And.intro (fun h => ?_) (fun h => ?_)
  · rw [zc_lt0 c1 c2] at h; exact fail () (by omega)
  rw [zc_lt0 c1 c2] at h
  refine And.symm (And.intro (fun h => ?_) (fun h => ?_))
  · rw [zn_i, zc_le c1 c2 (by omega) (by omega)] at h; exact fail () (by omega)
  rw [zn_i, zc_le c1 c2 (by omega) (by omega)] at h
  obtain ⟨j, rfl⟩ : ∃ j : Nat, r = (j : Int) := ⟨r.toNat, by omega⟩
  have hr : j < S.1.1 5 := by omega
  show ∃ sp : Sp, _
  refine callA (fun _ => rfl) (v_matterOf l) (by decide) rfl ⟨_, _, _, _, _, _, _, _, _, _, _, _, _, _, _, _, _, _, _, _, _, _, _, _, _, _, _, _, _, _, _, _, _, _, _, _, _, _, _, _, _, _, _, _, _, _, _, _, _, S.1, j, rfl, rfl, hR, hO, hr, kkR isW isW ?_⟩
  exact loop j rfl (by omega) _ 0 _ _ _ _ _ _ _ _ _ _ _ _ _ _ _ rfl (by omega) rfl rfl rfl
noncomputable def rqY (M : Od) (r : Nat) (y : Int) : List SE := routeF M (mtR M r) (whF M r y) 12 (M.2.1 5 r 1) y
noncomputable def soP (M : Od) (r : Nat) (u : Int) (k : Nat) : Option Int := if lC (rqY M r (u + k)) (whF M r (u + k)) 4 = 0 then some (lC (rqY M r (u + k)) (whF M r (u + k)) 1) else none
noncomputable def soF (M : Od) (r : Nat) (u : Int) (n : Nat) : Option (Nat × Int) := bsF (soP M r u) n
def bsU (u : Int) (o : Option (Nat × Int)) : Int := match o with | none => -2 | some (k, _) => u + (k : Int)
noncomputable def q_soonest (M : Od) (r u v c : Int) : Int := if 0 ≤ r ∧ r < M.1 5 ∧ 0 ≤ u ∧ u ≤ v ∧ v ≤ 999 ∧ v - u ≤ 60 ∧ 0 ≤ c ∧ c ≤ 1 then (if c = 0 ∨ bsU u (soF M r.toNat u (v - u + 1).toNat) = -2 then bsU u (soF M r.toNat u (v - u + 1).toNat) else bsD (soF M r.toNat u (v - u + 1).toNat)) else -1
theorem rqY_ok {M : Od} (hO : OKM M) {r : Nat} (hr : r < M.1 5) {y : Int} (hy : 0 ≤ y) : (∀ e ∈ rqY M r y, rOK e) ∧ (rqY M r y).length ≤ 12 := routeF_ok hO (mtR_ok hO hr) _ 12 _ _ hy
theorem bsU_rng {u : Int} {n : Nat} (o : Option (Nat × Int)) (hu : 0 ≤ u) (h : bsB o ≤ n) : -2 ≤ bsU u o ∧ bsU u o ≤ u + n := by
  cases o with
  | none => simp [bsU]; omega
  | some z => simp only [bsU, bsB] at *; omega
set_option maxRecDepth 20000 in
theorem v_soonest (l : Launch) : z_V l 108 (sp4 40 (qp4 q_soonest)) := by
  refine z_V.ofP (by decide +kernel) ?_
  rintro as σ K Post ⟨S, ⟨hOS, f, s, t, f1, s1, t1, f2, s2, t2, tb, f3, s3, t3, nu, ln, sp, ls, g, ta, pl, pf, ps, pt, fi, hz, ks, tz, ra, rf, rt, la, lb, lc, mp, mv, mk, mo, my, mw, ma, ml, ak, dy, br, ad, dp, lm, rs, len, rfl, hAR⟩, r, u, v, c, rfl, ⟨r1, r2⟩, ⟨u1, u2⟩, ⟨v1, v2⟩, ⟨c1, c2⟩, hK⟩ hP1 hP0
  obtain ⟨hR, ⟨fq, rfl, hPR⟩, rfl, rfl, a5, a6, rfl, a8⟩ := id hAR
  have hO := hOS.1
  have hx4 := hO.2.2.2.2.2.2.2.2.2 4 (by omega)
  rw [x_4] at hx4
  have hx5 := hO.2.2.2.2.2.2.2.2.2 5 (by omega)
  rw [x_5] at hx5
  unfold qp4 q_soonest at hK
  simp only [] at hK
  have fail : Unit → ¬ (0 ≤ r ∧ r < S.1.1 5 ∧ 0 ≤ u ∧ u ≤ v ∧ v ≤ 999 ∧ v - u ≤ 60 ∧ 0 ≤ c ∧ c ≤ 1) → Post (some (.int (iI (-1)))) (wA f s t f1 s1 t1 f2 s2 t2 tb f3 s3 t3 nu ln sp ls g ta pl pf ps pt (iI fq) (iI S.2.1.length) (iI (kmask S.2.2.1 : Nat)) (iI S.2.2.2.1) ra rf rt la lb lc mp mv mk mo my mw ma ml ak dy br ad dp lm rs len) := by
    intro _ hn; rw [if_neg hn] at hK; exact hP1 _ _ (hK _ (isA.mk hOS hAR))
  have loop : ∀ j : Nat, r = (j : Int) → (0 ≤ r ∧ r < S.1.1 5 ∧ 0 ≤ u ∧ u ≤ v ∧ v ≤ 999 ∧ v - u ≤ 60 ∧ 0 ≤ c ∧ c ≤ 1) → ∀ (n i : Nat) (x5 x6 x7 xy xw : Int32) (sp ls ln : Nat → Int32) (ak dy br ad dp lm rs len : Int32), n = (v - u + 1).toNat - i → i ≤ (v - u + 1).toNat → x5 = iI (bsD (soF S.1 j u i)) → x6 = iI (bsU u (soF S.1 j u i)) → x7 = iI (u + i) →
      AW l 108 40 0 0 75 none Post 59 [some (.ref 0), some (.int (iI r)), some (.int (iI u)), some (.int (iI v)), some (.int (iI c)), some (.int x5), some (.int x6), some (.int x7)] [] (wA f s t f1 s1 t1 f2 s2 t2 tb f3 s3 t3 nu ln sp ls g ta pl pf ps pt (iI fq) (iI S.2.1.length) (iI (kmask S.2.2.1 : Nat)) (iI S.2.2.2.1) ra rf rt la lb lc (iI (S.1.2.1 5 j 0)) (iI (S.1.2.1 5 j 2)) (iI (S.1.2.1 5 j 3)) (iI (S.1.2.1 5 j 1)) xy xw (iI (-1)) (iI (-1)) ak dy br ad dp lm rs len) 0 0 := by
    intro j hj hc n
    subst hj
    rw [if_pos hc, Int.toNat_natCast] at hK
    have hr : j < S.1.1 5 := by omega
    have hc := hO.2.2.2.2.2.1 j hr
    have hw := whF_rng hO hr (S.1.2.1 5 j 5)
    have hwq : 1 ≤ wq S.1 j ∧ wq S.1 j ≤ 500000 := hw
    have hq := rq_ok hO hr
    have hbr := fun (i : Nat) => bsF_rng (P := soP S.1 j u) i (fun k d hk hd => by
      unfold soP at hd
      split at hd
      · cases hd; exact ⟨(lC_rng (rqY_ok hO hr (by omega)).1 _ 1).1, (lC_rng (rqY_ok hO hr (by omega)).1 _ 1).2⟩
      · cases hd)
    induction n using Nat.strongRecOn with
    | ind n ih =>
      intro i x5 x6 x7 xy xw sp ls ln ak dy br ad dp lm rs len hn hi e5 e6 e7
      subst e5; subst e6; subst e7
      have hb := hbr i
      rw [show bsF (soP S.1 j u) i = soF S.1 j u i from rfl] at hb
      have hbu := bsU_rng (u := u) (soF S.1 j u i) (by omega) hb.2.2
      refine AW.go (bs := b_Appr_soonest) [59] 70 t_Appr_soonest ?_
      refine And.intro (fun h => ?_) (fun h => ?_)
      · rw [zc_gt (by omega) (by omega) (by omega) (by omega)] at h
        have : i = (v - u + 1).toNat := by omega
        subst this
        refine And.intro (fun h => ?_) (fun h => ?_)
        · rw [zc_eq0 c1 c2] at h
          rw [if_pos (Or.inl h)] at hK
          exact hP1 _ _ (hK _ (isA.mk hOS hAR))
        rw [zc_eq0 c1 c2] at h
        refine And.intro (fun h2 => ?_) (fun h2 => ?_)
        · have h2 := mt (zc_eq (b := -2) (by omega) (by omega) (by omega) (by omega)).mpr (fun q => h2 q)
          rw [if_neg (fun q => q.elim h h2)] at hK
          exact hP1 _ _ (hK _ (isA.mk hOS hAR))
        · have h2 := (zc_eq (b := -2) (by omega) (by omega) (by omega) (by omega)).mp (Classical.not_not.mp h2)
          rw [if_pos (Or.inr h2)] at hK
          exact hP1 _ _ (hK _ (isA.mk hOS hAR))
      rw [zc_gt (by omega) (by omega) (by omega) (by omega)] at h
      have hx := rqY_ok hO hr (y := u + i) (by omega)
      have hwy := whF_rng hO hr (u + i)
      show ∃ sp : Sp, _
      refine callA (fun _ => rfl) (v_wholeOn l) (by decide) rfl ⟨_, _, _, _, _, _, _, _, _, _, _, _, _, _, _, _, _, _, _, _, _, _, _, _, _, _, _, _, _, _, _, _, _, _, _, _, _, _, _, _, _, _, _, _, _, _, _, _, _, S.1, j, u + i, rfl, rfl, hR, hO, hr, by omega, by omega, ?_⟩
      refine ⟨_, v_follow l, by decide, _, _, _, f, s, t, S.1, mtR S.1 j, S.1.2.1 5 j 1, u + i, whF S.1 j (u + i), _, _, _, _, _, _, _, _, rfl, rfl, hR, hO, mtR_ok hO hr, ⟨by omega, by omega⟩, by omega, by omega, ⟨by omega, by omega⟩, fun sp' ls' ln' ak' dy' br' ad' dp' lm' rs' hRR => ?_⟩
      have hl1 := lC_rng hx.1 (whF S.1 j (u + i)) 1
      have ecu : soF S.1 j u (i + 1) = (match soP S.1 j u i with | none => soF S.1 j u i | some d => if d < bsD (soF S.1 j u i) then some (i, d) else soF S.1 j u i) := rfl
      have e7 : iI (u + (i : Int)) + z_nn 1 0 = iI (u + ((i + 1 : Nat) : Int)) := by rw [zn_i, iI_add]; congr 1; omega
      refine ⟨_, v_isApproved l, by decide, _, _, _, _, _, _, _, _, _, _, _, _, _, whF S.1 j (u + i), rqY S.1 j (u + i), rfl, hRR, hx.2, hx.1, rfl, ?_⟩
      refine And.intro (fun h => ?_) (fun h => ?_)
      · rw [zc_beq, decide_eq_false_iff_not] at h
        have ep : soP S.1 j u i = none := by unfold soP; rw [if_neg h]
        rw [ep] at ecu
        simp only [] at ecu
        exact ih _ (by omega) (i + 1) _ _ _ _ _ _ _ _ _ _ _ _ _ _ _ _ rfl (by omega) (by rw [ecu]) (by rw [ecu]) e7
      rw [zc_beq, decide_eq_false_iff_not, Classical.not_not] at h
      have ep : soP S.1 j u i = some (lC (rqY S.1 j (u + i)) (whF S.1 j (u + i)) 1) := by unfold soP; rw [if_pos h]
      rw [ep] at ecu
      simp only [] at ecu
      refine ⟨_, v_lastCell l, by decide, _, _, _, _, _, _, _, _, _, _, _, _, _, whF S.1 j (u + i), rqY S.1 j (u + i), rfl, hRR, hx.2, 1, rfl, by omega, ?_⟩
      refine And.intro (fun h2 => ?_) (fun h2 => ?_)
      · rw [zc_ge (by omega) (by omega) (by omega) (by omega)] at h2
        rw [if_neg (by omega)] at ecu
        exact ih _ (by omega) (i + 1) _ _ _ _ _ _ _ _ _ _ _ _ _ _ _ _ rfl (by omega) (by rw [ecu]) (by rw [ecu]) e7
      · rw [zc_ge (by omega) (by omega) (by omega) (by omega)] at h2
        rw [if_pos (by omega)] at ecu
        refine ⟨_, v_lastCell l, by decide, _, _, _, _, _, _, _, _, _, _, _, _, _, whF S.1 j (u + i), rqY S.1 j (u + i), rfl, hRR, hx.2, 1, rfl, by omega, ?_⟩
        exact ih _ (by omega) (i + 1) _ _ _ _ _ _ _ _ _ _ _ _ _ _ _ _ rfl (by omega) (by rw [ecu]; rfl) (by rw [ecu]; rfl) e7
  refine AW.go (bs := b_Appr_soonest) [59] 70 t_Appr_soonest ?_
  refine ⟨_, v_has l, by decide, f, s, t, rfl, S.1, 5, r, rfl, hR, by omega, ⟨r1, r2⟩, ?_⟩
  refine And.intro (fun h => ?_) (fun h => ?_)
  · rw [zc_beq, decide_eq_false_iff_not] at h; exact fail () (by omega)
  rw [zc_beq, decide_eq_false_iff_not, Classical.not_not] at h
  refine ⟨_, v_areDays l, by decide, rfl, u, v, rfl, ⟨u1, u2⟩, ⟨v1, v2⟩, ?_⟩
  refine And.intro (fun h => ?_) (fun h => ?_)
  · rw [zc_beq, dys, decide_eq_false_iff_not] at h; exact fail () (by omega)
  rw [zc_beq, dys, decide_eq_false_iff_not, Classical.not_not] at h
  refine And.intro (fun h => ?_) (fun h => ?_)
  · rw [zn_i, iI_sub, zc_gt (by omega) (by omega) (by omega) (by omega)] at h; exact fail () (by omega)
  rw [zn_i, iI_sub, zc_gt (by omega) (by omega) (by omega) (by omega)] at h
  refine And.intro (fun h => ?_) (fun h => ?_)
  · rw [zc_lt0 c1 c2] at h; exact fail () (by omega)
  rw [zc_lt0 c1 c2] at h
  refine And.symm (And.intro (fun h => ?_) (fun h => ?_))
  · rw [zn_i, zc_le c1 c2 (by omega) (by omega)] at h; exact fail () (by omega)
  rw [zn_i, zc_le c1 c2 (by omega) (by omega)] at h
  obtain ⟨j, rfl⟩ : ∃ j : Nat, r = (j : Int) := ⟨r.toNat, by omega⟩
  have hr : j < S.1.1 5 := by omega
  show ∃ sp : Sp, _
  refine callA (fun _ => rfl) (v_matterOf l) (by decide) rfl ⟨_, _, _, _, _, _, _, _, _, _, _, _, _, _, _, _, _, _, _, _, _, _, _, _, _, _, _, _, _, _, _, _, _, _, _, _, _, _, _, _, _, _, _, _, _, _, _, _, _, S.1, j, rfl, rfl, hR, hO, hr, kkR isW isW ?_⟩
  exact loop j rfl (by omega) _ 0 _ _ _ _ _ _ _ _ _ _ _ _ _ _ _ _ rfl (by omega) rfl rfl (by congr 1; omega)
