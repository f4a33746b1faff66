/-! tallies -/
def sp_clearTally : Sp := (0, 0, 0, pA, fun as σ K => ∃ (f s t f1 s1 t1 f2 s2 t2 tb f3 s3 t3 nu ln sp ls g ta pl : Nat → Int32) (pf ps pt : Nat → Nat → Int32) (fi hz ks tz ra rf rt la lb lc mp mv mk mo my mw ma ml ak dy br ad dp lm rs len : Int32), as = [.ref 0] ∧ σ = (wA f s t f1 s1 t1 f2 s2 t2 tb f3 s3 t3 nu ln sp ls g ta pl pf ps pt fi hz ks tz ra rf rt la lb lc mp mv mk mo my mw ma ml ak dy br ad dp lm rs len) ∧ ∀ ta', (∀ p, p < 16 → ta' p = iI 0) → K none (some (wA f s t f1 s1 t1 f2 s2 t2 tb f3 s3 t3 nu ln sp ls g ta' pl pf ps pt fi hz ks tz ra rf rt la lb lc mp mv mk mo my mw ma ml ak dy br ad dp lm rs len)))
set_option maxRecDepth 20000 in
theorem v_clearTally (l : Launch) : z_V l 140 sp_clearTally := by
  refine z_V.ofP (by decide +kernel) ?_
  rintro as σ K Post ⟨f, s, t, f1, s1, t1, f2, s2, t2, tb, f3, s3, t3, nu, ln, sp, ls, g, ta, pl, pf, ps, pt, fi, hz, ks, tz, ra, rf, rt, la, lb, lc, mp, mv, mk, mo, my, mw, ma, ml, ak, dy, br, ad, dp, lm, rs, len, rfl, rfl, hK⟩ hP1 hP0
  have loop : ∀ (n i : Nat) (x1 : Int32) (ta : Nat → Int32), n = 16 - i → i ≤ 16 → x1 = iI (i : Int) → (∀ p, p < i → ta p = iI 0) →
      AW l 140 0 0 0 75 none Post 2 [some (.ref 0), some (.int x1)] [] (wA f s t f1 s1 t1 f2 s2 t2 tb f3 s3 t3 nu ln sp ls g ta pl pf ps pt fi hz ks tz ra rf rt la lb lc mp mv mk mo my mw ma ml ak dy br ad dp lm rs len) 0 0 := by
    intro n
    induction n using Nat.strongRecOn with
    | ind n ih =>
      intro i x1 ta hn hi e1 h0
      subst e1
      refine AW.go (bs := b_Appr_clearTally) [2] 60 t_Appr_clearTally ?_
      refine And.intro (fun h => ?_) (fun h => ?_)
      · rw [zn_i, zc_ge (by omega) (by omega) (by omega) (by omega)] at h
        have : i = 16 := by omega
        subst this
        exact hP1 _ _ (hK ta h0)
      rw [zn_i, zc_ge (by omega) (by omega) (by omega) (by omega)] at h
      refine And.intro (zN_in (by omega) (by omega)) ?_
      show AW _ _ _ _ _ _ _ _ _ _ _ _ _ _
      rw [zN_cl (by omega)]
      refine ih _ (by omega) (i + 1) _ _ rfl (by omega) (zn_inc i) (fun p hp => ?_)
      unfold upd
      split
      · rfl
      · exact h0 p (by omega)
  refine AW.go (bs := b_Appr_clearTally) [2] 60 t_Appr_clearTally ?_
  exact loop _ 0 _ _ rfl (by omega) rfl (fun p hp => by omega)
/-- does a step count for a person -/
def ctE (w c : Int) (p : Nat) (e : SE) : Bool := decide (sC e w 2 = (p : Int)) && caF e w c
def cntL (w c : Int) (p : Nat) : List SE → Nat
  | [] => 0
  | e :: R => (if ctE w c p e then 1 else 0) + cntL w c p R
theorem cntL_le (w c : Int) (p : Nat) : ∀ R, cntL w c p R ≤ R.length
  | [] => Nat.le_refl 0
  | e :: R => by have := cntL_le w c p R; unfold cntL; simp; split <;> omega
/-- how many steps of the first n requests count for a person -/
noncomputable def tlF (M : Od) (c : Int) (p : Nat) : Nat → Nat
  | 0 => 0
  | n + 1 => tlF M c p n + (if recd M n then 0 else cntL (wq M n) c p (rq M n))
theorem tlF_le {M : Od} (hO : OKM M) (c : Int) (p : Nat) : ∀ n, n ≤ M.1 5 → tlF M c p n ≤ 12 * n
  | 0, _ => Nat.le_refl 0
  | n + 1, h => by
    have := tlF_le hO c p n (by omega)
    have h1 := cntL_le (wq M n) c p (rq M n)
    have h2 := (rq_ok hO (show n < M.1 5 by omega)).2
    unfold tlF
    split <;> omega
def sp_tallySteps : Sp := (34, 0, 0, pA, fun as σ K => ∃ (f s t f1 s1 t1 f2 s2 t2 tb f3 s3 t3 nu ln sp ls g ta pl : Nat → Int32) (pf ps pt : Nat → Nat → Int32) (fi hz ks tz ra rf rt la lb lc mp mv mk mo my mw ma ml ak dy br ad dp lm rs len : Int32) (M : Od) (c : Int), as = [.ref 0, .int (iI c)] ∧ σ = (wA f s t f1 s1 t1 f2 s2 t2 tb f3 s3 t3 nu ln sp ls g ta pl pf ps pt fi hz ks tz ra rf rt la lb lc mp mv mk mo my mw ma ml ak dy br ad dp lm rs len) ∧ RS f s t M ∧ OKM M ∧ ir c ∧ ∀ (sp' ls' ln' ta' : Nat → Int32) (mp' mv' mk' mo' my' mw' ma' ml' ak' dy' br' ad' dp' lm' rs' len' : Int32), (∀ p, p < 16 → ta' p = iI (tlF M c p (M.1 5) : Nat)) → K none (some (wA f s t f1 s1 t1 f2 s2 t2 tb f3 s3 t3 nu ln' sp' ls' g ta' pl pf ps pt fi hz ks tz ra rf rt la lb lc mp' mv' mk' mo' my' mw' ma' ml' ak' dy' br' ad' dp' lm' rs' len')))
set_option maxRecDepth 20000 in
theorem v_tallySteps (l : Launch) : z_V l 141 sp_tallySteps := by
  refine z_V.ofP (by decide +kernel) ?_
  rintro as σ K Post ⟨f, s, t, f1, s1, t1, f2, s2, t2, tb, f3, s3, t3, nu, ln, sp, ls, g, ta, pl, pf, ps, pt, fi, hz, ks, tz, ra, rf, rt, la, lb, lc, mp, mv, mk, mo, my, mw, ma, ml, ak, dy, br, ad, dp, lm, rs, len, M, c, rfl, rfl, hR, hO, ⟨c1, c2⟩, hK⟩ hP1 hP0
  have hx5 := hO.2.2.2.2.2.2.2.2.2 5 (by omega)
  rw [x_5] at hx5
  have hx4 := hO.2.2.2.2.2.2.2.2.2 4 (by omega)
  rw [x_4] at hx4
  have hs := hR.size 5 (by omega)
  have outer : ∀ (n i : Nat) (x2 : Int32) (v3 v4 : Option Value) (sp ls ln ta : Nat → Int32) (mp mv mk mo my mw ma ml ak dy br ad dp lm rs len : Int32), n = M.1 5 - i → i ≤ M.1 5 → x2 = iI (i : Int) → (∀ p, p < 16 → ta p = iI (tlF M c p i : Nat)) →
      AW l 141 34 0 0 75 none Post 6 [some (.ref 0), some (.int (iI c)), some (.int x2), v3, v4] [] (wA f s t f1 s1 t1 f2 s2 t2 tb f3 s3 t3 nu ln sp ls g ta pl pf ps pt fi hz ks tz ra rf rt la lb lc mp mv mk mo my mw ma ml ak dy br ad dp lm rs len) 0 0 := by
    intro n
    induction n using Nat.strongRecOn with
    | ind n ih =>
      intro i x2 v3 v4 sp ls ln ta mp mv mk mo my mw ma ml ak dy br ad dp lm rs len hn hi e2 hta
      subst e2
      have inner : ∀ (q k : Nat) (x3 : Int32) (v4 : Option Value) (sp ls ln ta : Nat → Int32) (mp mv mk mo my mw ma ml ak dy br ad dp lm rs : Int32), i < M.1 5 → recd M i = false → q = (rq M i).length - k → k ≤ (rq M i).length → x3 = iI (k : Int) → RR sp ls (wq M i) (rq M i) → (∀ p, p < 16 → ta p = iI (tlF M c p i + (cntL (wq M i) c p (rq M i) - cntL (wq M i) c p ((rq M i).drop k)) : Nat)) → (∀ p, cntL (wq M i) c p ((rq M i).drop k) ≤ cntL (wq M i) c p (rq M i)) →
          AW l 141 34 0 0 75 none Post 47 [some (.ref 0), some (.int (iI c)), some (.int (iI (i : Int))), some (.int x3), v4] [] (wA f s t f1 s1 t1 f2 s2 t2 tb f3 s3 t3 nu ln sp ls g ta pl pf ps pt fi hz ks tz ra rf rt la lb lc mp mv mk mo my mw ma ml ak dy br ad dp lm rs (iI (rq M i).length)) 0 0 := by
        intro q
        induction q using Nat.strongRecOn with
        | ind q ihq =>
          intro k x3 v4 sp ls ln ta mp mv mk mo my mw ma ml ak dy br ad dp lm rs hr hrec hq hk e3 hRR hta hle
          subst e3
          have hqo := rq_ok hO hr
          refine AW.go (bs := b_Appr_tallySteps) [6, 47] 70 t_Appr_tallySteps ?_
          refine And.intro (fun h => ?_) (fun h => ?_)
          · rw [zc_ge (by omega) (by omega) (by omega) (by omega)] at h
            refine ih _ (by omega) (i + 1) _ _ _ _ _ _ _ _ _ _ _ _ _ _ _ _ _ _ _ _ _ _ _ rfl (by omega) (zn_inc i) (fun p hp => ?_)
            rw [hta p hp, tlF, hrec, List.drop_eq_nil_of_le (by omega), cntL]; rfl
          rw [zc_ge (by omega) (by omega) (by omega) (by omega)] at h
          obtain ⟨e, he⟩ : ∃ e, (rq M i)[k]? = some e := ⟨_, List.getElem?_eq_getElem (by omega)⟩
          have hdrop : (rq M i).drop k = e :: (rq M i).drop (k + 1) := by rw [List.drop_eq_getElem_cons (by omega), (List.getElem?_eq_some_iff.mp he).2]
          have hsr := sC_rng (hqo.1 e (List.mem_of_getElem? he)) (wq M i) 2
          have nxt : ∀ p, cntL (wq M i) c p ((rq M i).drop k) = (if ctE (wq M i) c p e then 1 else 0) + cntL (wq M i) c p ((rq M i).drop (k + 1)) := fun p => by rw [hdrop, cntL]
          have skip : ∀ p, ctE (wq M i) c p e = false → cntL (wq M i) c p (rq M i) - cntL (wq M i) c p ((rq M i).drop (k + 1)) = cntL (wq M i) c p (rq M i) - cntL (wq M i) c p ((rq M i).drop k) := fun p hp => by rw [nxt p, hp]; simp
          have hle' : ∀ p, cntL (wq M i) c p ((rq M i).drop (k + 1)) ≤ cntL (wq M i) c p (rq M i) := fun p => by have := hle p; rw [nxt p] at this; omega
          refine ⟨_, v_rcell l, by decide, _, _, _, _, _, _, _, _, _, _, _, _, _, wq M i, rq M i, rfl, hRR, hqo.2, k, 2, e, _, _, rfl, rfl, rfl, he, by omega, ?_⟩
          refine ⟨_, v_isPerson l, by decide, rfl, _, rfl, ⟨by omega, by omega⟩, ?_⟩
          refine And.intro (fun h => ?_) (fun h => ?_)
          · rw [zc_beq, decide_eq_false_iff_not] at h
            refine ihq _ (by omega) (k + 1) _ _ _ _ _ _ _ _ _ _ _ _ _ _ _ _ _ _ _ _ _ hr hrec rfl (by omega) (zn_inc k) hRR (fun p hp => ?_) hle'
            rw [hta p hp, skip p (by rw [ctE, decide_eq_false (by omega)]; rfl)]
          rw [zc_beq, decide_eq_false_iff_not, Classical.not_not] at h
          obtain ⟨w, hw⟩ : ∃ w : Nat, sC e (wq M i) 2 = (w : Int) := ⟨(sC e (wq M i) 2).toNat, by omega⟩
          have hw16 : w < 16 := by omega
          refine ⟨_, v_countsAs l, by decide, _, _, _, _, _, _, _, _, _, _, _, _, _, wq M i, rq M i, rfl, hRR, hqo.2, k, c, e, hqo.1, rfl, he, ⟨c1, c2⟩, ?_⟩
          refine And.intro (fun h => ?_) (fun h => ?_)
          · rw [zc_beq] at h
            refine ihq _ (by omega) (k + 1) _ _ _ _ _ _ _ _ _ _ _ _ _ _ _ _ _ _ _ _ _ hr hrec rfl (by omega) (zn_inc k) hRR (fun p hp => ?_) hle'
            rw [hta p hp, skip p (by rw [ctE, h, Bool.and_false])]
          rw [zc_beq, Bool.not_eq_false] at h
          show _ ∧ _
          rw [hw]
          refine And.intro (zN_in hw16 (by omega)) ?_
          refine And.intro (zN_in hw16 (by omega)) ?_
          show AW _ _ _ _ _ _ _ _ _ _ _ _ _ _
          rw [zN_cl (by omega), hta w hw16]
          refine ihq _ (by omega) (k + 1) _ _ _ _ _ _ _ _ _ _ _ _ _ _ _ _ _ _ _ _ _ hr hrec rfl (by omega) (zn_inc k) hRR (fun p hp => ?_) hle'
          unfold upd
          by_cases e1 : p = w
          · rw [if_pos e1]
            have h1 := hle w
            have h2 := nxt w
            rw [show ctE (wq M i) c w e = true by rw [ctE, h, hw, decide_eq_true rfl]; rfl, if_pos rfl] at h2
            rw [e1, zn_i, iI_add]
            congr 1
            omega
          · rw [if_neg e1, hta p hp, skip p (by rw [ctE, hw, decide_eq_false (by omega)]; rfl)]
      refine AW.go (bs := b_Appr_tallySteps) [6, 47] 70 t_Appr_tallySteps ?_
      refine And.intro (zn_in (by omega) (by omega)) ?_
      refine And.intro (fun h => ?_) (fun h => ?_)
      · rw [zn_cl (by omega), hs, zc_ge (by omega) (by omega) (by omega) (by omega)] at h
        have : i = M.1 5 := by omega
        subst this
        exact hP1 _ _ (hK _ _ _ _ _ _ _ _ _ _ _ _ _ _ _ _ _ _ _ _ hta)
      rw [zn_cl (by omega), hs, zc_ge (by omega) (by omega) (by omega) (by omega)] at h
      have hr : i < M.1 5 := by omega
      refine ⟨_, v_isRecalled l, by decide, f, s, t, rfl, M, i, rfl, hR, hO, hr, ?_⟩
      refine And.symm (And.intro (fun h => ?_) (fun h => ?_))
      · rw [zc_beq, Bool.not_eq_false] at h
        refine ih _ (by omega) (i + 1) _ _ _ _ _ _ _ _ _ _ _ _ _ _ _ _ _ _ _ _ _ _ _ rfl (by omega) (zn_inc i) (fun p hp => ?_)
        rw [hta p hp, tlF, recd, h]; rfl
      rw [zc_beq] at h
      have hc := hO.2.2.2.2.2.1 i hr
      have hw := whF_rng hO hr (M.2.1 5 i 5)
      have hwq : 1 ≤ wq M i ∧ wq M i ≤ 500000 := hw
      show ∃ sp : Sp, _
      refine callA (fun _ => rfl) (v_matterOf l) (by decide) rfl ⟨_, _, _, _, _, _, _, _, _, _, _, _, _, _, _, _, _, _, _, _, _, _, _, _, _, _, _, _, _, _, _, _, _, _, _, _, _, _, _, _, _, _, _, _, _, _, _, _, _, M, i, rfl, rfl, hR, hO, hr, kkR isW isW ?_⟩
      refine ⟨_, v_follow l, by decide, _, _, _, f, s, t, M, mtR M i, M.2.1 5 i 1, M.2.1 5 i 5, wq M i, _, _, _, _, _, _, _, _, rfl, rfl, hR, hO, mtR_ok hO hr, ⟨by omega, by omega⟩, by omega, by omega, ⟨by omega, by omega⟩, fun sp' ls' ln' ak' dy' br' ad' dp' lm' rs' hRR => ?_⟩
      refine inner _ 0 _ _ _ _ _ _ _ _ _ _ _ _ _ _ _ _ _ _ _ _ _ hr h rfl (by omega) rfl hRR (fun p hp => ?_) (fun p => Nat.le_refl _)
      rw [hta p hp, List.drop_zero, Nat.sub_self, Nat.add_zero]
  refine AW.go (bs := b_Appr_tallySteps) [6] 70 t_Appr_tallySteps ?_
  show ∃ sp : Sp, _
  refine callA (fun _ => rfl) (v_clearTally l) (by decide) rfl ⟨_, _, _, _, _, _, _, _, _, _, _, _, _, _, _, _, _, _, _, _, _, _, _, _, _, _, _, _, _, _, _, _, _, _, _, _, _, _, _, _, _, _, _, _, _, _, _, _, _, rfl, rfl, fun ta' h0 => kkV isW isW ?_⟩
  exact outer _ 0 _ _ _ _ _ _ _ _ _ _ _ _ _ _ _ _ _ _ _ _ _ _ _ rfl (by omega) rfl h0
/-- the first of those with most -/
def btF (T : Nat → Nat) : Nat → Nat
  | 0 => 0
  | n + 1 => if T (btF T n) < T (n + 1) then n + 1 else btF T n
theorem btF_le (T : Nat → Nat) : ∀ n, btF T n ≤ n
  | 0 => Nat.le_refl 0
  | n + 1 => by have := btF_le T n; unfold btF; split <;> omega
def ofT (T : Nat → Nat) (c : Int) : Int := if T (btF T 15) = 0 then -2 else if c = 0 then (btF T 15 : Int) else (T (btF T 15) : Int)
def sp_ofTally : Sp := (0, 0, 0, pA, fun as σ K => ∃ (f s t f1 s1 t1 f2 s2 t2 tb f3 s3 t3 nu ln sp ls g ta pl : Nat → Int32) (pf ps pt : Nat → Nat → Int32) (fi hz ks tz ra rf rt la lb lc mp mv mk mo my mw ma ml ak dy br ad dp lm rs len : Int32) (T : Nat → Nat) (c : Int), as = [.ref 0, .int (iI c)] ∧ σ = (wA f s t f1 s1 t1 f2 s2 t2 tb f3 s3 t3 nu ln sp ls g ta pl pf ps pt fi hz ks tz ra rf rt la lb lc mp mv mk mo my mw ma ml ak dy br ad dp lm rs len) ∧ (∀ p, p < 16 → ta p = iI (T p : Nat) ∧ T p ≤ 100000) ∧ ir c ∧ K (some (.int (iI (ofT T c)))) none)
set_option maxRecDepth 20000 in
theorem v_ofTally (l : Launch) : z_V l 143 sp_ofTally := by
  refine z_V.ofP (by decide +kernel) ?_
  rintro as σ K Post ⟨f, s, t, f1, s1, t1, f2, s2, t2, tb, f3, s3, t3, nu, ln, sp, ls, g, ta, pl, pf, ps, pt, fi, hz, ks, tz, ra, rf, rt, la, lb, lc, mp, mv, mk, mo, my, mw, ma, ml, ak, dy, br, ad, dp, lm, rs, len, T, c, rfl, rfl, hT, ⟨c1, c2⟩, hK⟩ hP1 hP0
  unfold ofT at hK
  have loop : ∀ (n i : Nat) (x2 x3 : Int32), n = 16 - i → 1 ≤ i → i ≤ 16 → x2 = iI (btF T (i - 1) : Nat) → x3 = iI (i : Int) →
      AW l 143 0 0 0 75 none Post 4 [some (.ref 0), some (.int (iI c)), some (.int x2), some (.int x3)] [] (wA f s t f1 s1 t1 f2 s2 t2 tb f3 s3 t3 nu ln sp ls g ta pl pf ps pt fi hz ks tz ra rf rt la lb lc mp mv mk mo my mw ma ml ak dy br ad dp lm rs len) 0 0 := by
    intro n
    induction n using Nat.strongRecOn with
    | ind n ih =>
      intro i x2 x3 hn hi1 hi e2 e3
      subst e2; subst e3
      have hb := btF_le T (i - 1)
      have hTb := hT (btF T (i - 1)) (by omega)
      refine AW.go (bs := b_Appr_ofTally) [4] 60 t_Appr_ofTally ?_
      refine And.intro (fun h => ?_) (fun h => ?_)
      · rw [zn_i, zc_ge (by omega) (by omega) (by omega) (by omega)] at h
        have : i = 16 := by omega
        subst this
        rw [show 16 - 1 = 15 from rfl] at *
        refine And.intro (zN_in (by omega) (by omega)) ?_
        show _ ∧ _
        rw [zN_cl (by omega), hTb.1]
        refine And.symm (And.intro (fun h => ?_) (fun h => ?_))
        · rw [zc_ne0 (by omega) (by omega), Classical.not_not] at h
          rw [if_pos (by omega)] at hK
          exact hP0 _ hK
        rw [zc_ne0 (by omega) (by omega)] at h
        rw [if_neg (by omega)] at hK
        refine And.symm (And.intro (fun h => ?_) (fun h => ?_))
        · rw [zc_ne0 c1 c2, Classical.not_not] at h
          rw [if_pos h] at hK
          exact hP0 _ hK
        · rw [zc_ne0 c1 c2] at h
          rw [if_neg h] at hK
          refine And.intro (zN_in (by omega) (by omega)) ?_
          show Post _ _
          rw [zN_cl (by omega), hTb.1]
          exact hP0 _ hK
      rw [zn_i, zc_ge (by omega) (by omega) (by omega) (by omega)] at h
      have hTi := hT i (by omega)
      have eb : btF T (i + 1 - 1) = if T (btF T (i - 1)) < T i then i else btF T (i - 1) := by
        obtain ⟨j, rfl⟩ : ∃ j, i = j + 1 := ⟨i - 1, by omega⟩
        rfl
      refine And.intro (zN_in (by omega) (by omega)) ?_
      refine And.intro (zN_in (by omega) (by omega)) ?_
      show _ ∧ _
      rw [zN_cl (by omega), zN_cl (by omega), hTb.1, hTi.1]
      refine And.intro (fun h => ?_) (fun h => ?_)
      · rw [zc_le (by omega) (by omega) (by omega) (by omega)] at h
        exact ih _ (by omega) (i + 1) _ _ rfl (by omega) (by omega) (by rw [eb, if_neg (by omega)]) (zn_inc i)
      · rw [zc_le (by omega) (by omega) (by omega) (by omega)] at h
        exact ih _ (by omega) (i + 1) _ _ rfl (by omega) (by omega) (by rw [eb, if_pos (by omega)]) (zn_inc i)
  refine AW.go (bs := b_Appr_ofTally) [4] 60 t_Appr_ofTally ?_
  exact loop _ 1 _ _ rfl (by omega) (by omega) rfl rfl
noncomputable def q_load (M : Od) (p c : Int) : Int := if 0 ≤ p ∧ p ≤ 15 ∧ 0 ≤ c ∧ c ≤ 2 then (tlF M c p.toNat (M.1 5) : Int) else -1
set_option maxRecDepth 20000 in
theorem v_load (l : Launch) : z_V l 112 (sp2 40 (qp2 q_load)) := by
  refine z_V.ofP (by decide +kernel) ?_
  rintro as σ K Post ⟨S, ⟨hOS, f, s, t, f1, s1, t1, f2, s2, t2, tb, f3, s3, t3, nu, ln, sp, ls, g, ta, pl, pf, ps, pt, fi, hz, ks, tz, ra, rf, rt, la, lb, lc, mp, mv, mk, mo, my, mw, ma, ml, ak, dy, br, ad, dp, lm, rs, len, rfl, hAR⟩, p, c, rfl, ⟨p1, p2⟩, ⟨c1, c2⟩, hK⟩ hP1 hP0
  obtain ⟨hR, ⟨fq, rfl, hPR⟩, rfl, rfl, a5, a6, rfl, a8⟩ := id hAR
  have hO := hOS.1
  have hx4 := hO.2.2.2.2.2.2.2.2.2 4 (by omega)
  rw [x_4] at hx4
  have hx5 := hO.2.2.2.2.2.2.2.2.2 5 (by omega)
  rw [x_5] at hx5
  unfold qp2 q_load at hK
  simp only [] at hK
  have fail : Unit → ¬ (0 ≤ p ∧ p ≤ 15 ∧ 0 ≤ c ∧ c ≤ 2) → Post (some (.int (iI (-1)))) (wA f s t f1 s1 t1 f2 s2 t2 tb f3 s3 t3 nu ln sp ls g ta pl pf ps pt (iI fq) (iI S.2.1.length) (iI (kmask S.2.2.1 : Nat)) (iI S.2.2.2.1) ra rf rt la lb lc mp mv mk mo my mw ma ml ak dy br ad dp lm rs len) := by
    intro _ hn; rw [if_neg hn] at hK; exact hP1 _ _ (hK _ (isA.mk hOS hAR))
  refine AW.go (bs := b_Appr_load) [] 60 t_Appr_load ?_
  refine ⟨_, v_isPerson l, by decide, rfl, p, rfl, ⟨p1, p2⟩, ?_⟩
  refine And.intro (fun h => ?_) (fun h => ?_)
  · rw [zc_beq, decide_eq_false_iff_not] at h; exact fail () (by omega)
  rw [zc_beq, decide_eq_false_iff_not, Classical.not_not] at h
  refine And.intro (fun h => ?_) (fun h => ?_)
  · rw [zc_lt0 c1 c2] at h; exact fail () (by omega)
  rw [zc_lt0 c1 c2] at h
  refine And.symm (And.intro (fun h => ?_) (fun h => ?_))
  · rw [zn_i, zc_le c1 c2 (by omega) (by omega)] at h; exact fail () (by omega)
  rw [zn_i, zc_le c1 c2 (by omega) (by omega)] at h
  rw [if_pos (by omega)] at hK
  obtain ⟨j, rfl⟩ : ∃ j : Nat, p = (j : Int) := ⟨p.toNat, by omega⟩
  rw [Int.toNat_natCast] at hK
  show ∃ sp : Sp, _
  refine callA (fun _ => rfl) (v_tallySteps l) (by decide) rfl ⟨_, _, _, _, _, _, _, _, _, _, _, _, _, _, _, _, _, _, _, _, _, _, _, _, _, _, _, _, _, _, _, _, _, _, _, _, _, _, _, _, _, _, _, _, _, _, _, _, _, S.1, c, rfl, rfl, hR, hO, ⟨c1, c2⟩, fun sp' ls' ln' ta' mp' mv' mk' mo' my' mw' ma' ml' ak' dy' br' ad' dp' lm' rs' len' hta => kkV isW isW ?_⟩
  refine And.intro (zN_in (by omega) (by omega)) ?_
  show Post _ _
  rw [zN_cl (by omega), hta j (by omega)]
  exact hP1 _ _ (hK _ (isA.mk hOS hAR))
noncomputable def q_busiest (M : Od) (c : Int) : Int := if 0 ≤ c ∧ c ≤ 1 then ofT (fun p => tlF M 0 p (M.1 5)) c else -1
set_option maxRecDepth 20000 in
theorem v_busiest (l : Launch) : z_V l 113 (sp1 40 (qp q_busiest)) := by
  refine z_V.ofP (by decide +kernel) ?_
  rintro as σ K Post ⟨S, ⟨hOS, f, s, t, f1, s1, t1, f2, s2, t2, tb, f3, s3, t3, nu, ln, sp, ls, g, ta, pl, pf, ps, pt, fi, hz, ks, tz, ra, rf, rt, la, lb, lc, mp, mv, mk, mo, my, mw, ma, ml, ak, dy, br, ad, dp, lm, rs, len, rfl, hAR⟩, c, rfl, ⟨c1, c2⟩, hK⟩ hP1 hP0
  obtain ⟨hR, ⟨fq, rfl, hPR⟩, rfl, rfl, a5, a6, rfl, a8⟩ := id hAR
  have hO := hOS.1
  have hx4 := hO.2.2.2.2.2.2.2.2.2 4 (by omega)
  rw [x_4] at hx4
  have hx5 := hO.2.2.2.2.2.2.2.2.2 5 (by omega)
  rw [x_5] at hx5
  unfold qp q_busiest at hK
  simp only [] at hK
  have fail : Unit → ¬ (0 ≤ c ∧ c ≤ 1) → Post (some (.int (iI (-1)))) (wA f s t f1 s1 t1 f2 s2 t2 tb f3 s3 t3 nu ln sp ls g ta pl pf ps pt (iI fq) (iI S.2.1.length) (iI (kmask S.2.2.1 : Nat)) (iI S.2.2.2.1) ra rf rt la lb lc mp mv mk mo my mw ma ml ak dy br ad dp lm rs len) := by
    intro _ hn; rw [if_neg hn] at hK; exact hP1 _ _ (hK _ (isA.mk hOS hAR))
  refine AW.go (bs := b_Appr_busiest) [] 60 t_Appr_busiest ?_
  refine And.intro (fun h => ?_) (fun h => ?_)
  · rw [zc_lt0 c1 c2] at h; exact fail () (by omega)
  rw [zc_lt0 c1 c2] at h
  refine And.symm (And.intro (fun h => ?_) (fun h => ?_))
  · rw [zn_i, zc_le c1 c2 (by omega) (by omega)] at h; exact fail () (by omega)
  rw [zn_i, zc_le c1 c2 (by omega) (by omega)] at h
  rw [if_pos (by omega)] at hK
  show ∃ sp : Sp, _
  refine callA (fun _ => rfl) (v_tallySteps l) (by decide) rfl ⟨_, _, _, _, _, _, _, _, _, _, _, _, _, _, _, _, _, _, _, _, _, _, _, _, _, _, _, _, _, _, _, _, _, _, _, _, _, _, _, _, _, _, _, _, _, _, _, _, _, S.1, 0, rfl, rfl, hR, hO, ⟨by omega, by omega⟩, fun sp' ls' ln' ta' mp' mv' mk' mo' my' mw' ma' ml' ak' dy' br' ad' dp' lm' rs' len' hta => kkV isW isW ?_⟩
  show ∃ sp : Sp, _
  refine callA (fun _ => rfl) (v_ofTally l) (by decide) rfl ⟨_, _, _, _, _, _, _, _, _, _, _, _, _, _, _, _, _, _, _, _, _, _, _, _, _, _, _, _, _, _, _, _, _, _, _, _, _, _, _, _, _, _, _, _, _, _, _, _, _, fun p => tlF S.1 0 p (S.1.1 5), c, rfl, rfl, fun p hp => ⟨hta p hp, by have := tlF_le hO 0 p (S.1.1 5) (Nat.le_refl _); show tlF S.1 0 p (S.1.1 5) ≤ 100000; omega⟩, ⟨c1, c2⟩, ?_⟩
  exact hP1 _ _ (hK _ (isA.mk hOS hAR))
