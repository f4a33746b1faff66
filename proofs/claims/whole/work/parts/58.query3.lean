def mtQ (p q : Int) : Mt := (p, q % 10, q / 10, -1, -1)
/-- who decides: the last of the line -/
def lastP (L : List Nat) : Int := ((L.getLast?.getD 0 : Nat) : Int)
def q_decides (M : Od) (o y p q : Int) : Int := if 0 ≤ o ∧ o < M.1 4 ∧ 0 ≤ y ∧ y ≤ 999 ∧ 0 ≤ q ∧ q ≤ 29 ∧ (p = -1 ∨ (0 ≤ p ∧ p ≤ 15)) then (match decF M (mtQ p q) o.toNat y with | some (_, L) => lastP L | none => -2 - reaF M (mtQ p q) o.toNat y) else -1
theorem dec_last {ln : Nat → Int32} {dp lm : Int32} {x : Int} {L : List Nat} {ln0 : Nat → Int32} (h : aRes 0 ln0 ln dp lm (some (x, L))) (h1 : 1 ≤ L.length) : dp = iI ((L.length - 1 : Nat) : Int) ∧ ln (L.length - 1) = iI (lastP L) ∧ lm = iI x := by
  obtain ⟨g1, g2, g3⟩ := h.2 x L rfl
  refine ⟨by rw [g2]; congr 1; omega, ?_, g1⟩
  have := g3 (L.length - 1) _ (getLast_at h1)
  rw [Nat.zero_add] at this; exact this
set_option maxRecDepth 20000 in
theorem v_decides (l : Launch) : z_V l 101 (sp4 40 (qp4 q_decides)) := by
  refine z_V.ofP (by decide +kernel) ?_
  rintro as σ K Post ⟨S, ⟨hOS, f, s, t, f1, s1, t1, f2, s2, t2, tb, f3, s3, t3, nu, ln, sp, ls, g, ta, pl, pf, ps, pt, fi, hz, ks, tz, ra, rf, rt, la, lb, lc, mp, mv, mk, mo, my, mw, ma, ml, ak, dy, br, ad, dp, lm, rs, len, rfl, hAR⟩, o, y, p, q, rfl, ⟨o1, o2⟩, ⟨y1, y2⟩, ⟨p1, p2⟩, ⟨q1, q2⟩, hK⟩ hP1 hP0
  obtain ⟨hR, ⟨fq, rfl, hPR⟩, rfl, rfl, a5, a6, rfl, a8⟩ := id hAR
  have hO := hOS.1
  have hx4 := hO.2.2.2.2.2.2.2.2.2 4 (by omega)
  rw [x_4] at hx4
  have hx5 := hO.2.2.2.2.2.2.2.2.2 5 (by omega)
  rw [x_5] at hx5
  unfold qp4 q_decides at hK
  simp only [] at hK
  have fail : Unit → ¬ (0 ≤ o ∧ o < S.1.1 4 ∧ 0 ≤ y ∧ y ≤ 999 ∧ 0 ≤ q ∧ q ≤ 29 ∧ (p = -1 ∨ (0 ≤ p ∧ p ≤ 15))) → Post (some (.int (iI (-1)))) (wA f s t f1 s1 t1 f2 s2 t2 tb f3 s3 t3 nu ln sp ls g ta pl pf ps pt (iI fq) (iI S.2.1.length) (iI (kmask S.2.2.1 : Nat)) (iI S.2.2.2.1) ra rf rt la lb lc mp mv mk mo my mw ma ml ak dy br ad dp lm rs len) := by
    intro _ hn; rw [if_neg hn] at hK; exact hP1 _ _ (hK _ (isA.mk hOS hAR))
  have tail : (0 ≤ o ∧ o < S.1.1 4 ∧ 0 ≤ y ∧ y ≤ 999 ∧ 0 ≤ q ∧ q ≤ 29 ∧ (p = -1 ∨ (0 ≤ p ∧ p ≤ 15))) → AW l 101 40 0 0 75 none Post 41 [some (.ref 0), some (.int (iI o)), some (.int (iI y)), some (.int (iI p)), some (.int (iI q))] [] (wA f s t f1 s1 t1 f2 s2 t2 tb f3 s3 t3 nu ln sp ls g ta pl pf ps pt (iI fq) (iI S.2.1.length) (iI (kmask S.2.2.1 : Nat)) (iI S.2.2.2.1) ra rf rt la lb lc mp mv mk mo my mw ma ml ak dy br ad dp lm rs len) 0 0 := by
    intro hc
    rw [if_pos hc] at hK
    obtain ⟨j, rfl⟩ : ∃ j : Nat, o = (j : Int) := ⟨o.toNat, by omega⟩
    rw [Int.toNat_natCast] at hK
    have hj : j < S.1.1 4 := by omega
    have hm : mOK (mtQ p q) := by
      unfold mOK ir mtQ mP mV mK mA mL
      refine ⟨⟨?_, ?_⟩, ⟨?_, ?_⟩, ?_, ?_, ⟨?_, ?_⟩, ⟨?_, ?_⟩⟩ <;> (try simp only []) <;> omega
    refine AW.go (bs := b_Appr_decides) [] 60 t_Appr_decides ?_
    refine And.intro (by decide) ?_
    refine And.intro (by decide) ?_
    show ∃ sp : Sp, _
    rw [zn_i 10, iI_rem (by omega) (by omega) (by omega) (by omega), iI_div (by omega) (by omega) (by omega) (by omega)]
    refine ⟨_, v_begin l, by decide, mp, mv, mk, mo, my, mw, ma, ml, _, _, _, rfl, rfl, ?_⟩
    refine ⟨_, v_ask l, by decide, ln, f, s, t, S.1, mtQ p q, j, y, _, _, _, _, _, _, _, _, _, _, rfl, rfl, hR, hO, hm, hj, ⟨y1, y2⟩, fun ln' ak' dy' br' ad' dp' lm' hres => ?_⟩
    cases hd : decF S.1 (mtQ p q) j y with
    | none =>
      rw [hd] at hK
      refine And.intro (fun _ => ?_) (fun h => absurd zt_eqf h)
      have hrr := reaF_rng S.1 (mtQ p q) j y
      show Post _ _
      rw [show z_nn 2 1 = iI (-2) from rfl, iI_sub]
      exact hP1 _ _ (hK _ (isA.mk hOS hAR))
    | some z =>
      obtain ⟨x, L⟩ := z
      rw [hd] at hK hres
      obtain ⟨g1, g2, g3, g4, g5⟩ := decF_ok hO hm hj hd
      obtain ⟨rfl, d2, rfl⟩ := dec_last hres g3
      refine And.intro (fun h => absurd h zt_neqt) (fun _ => ?_)
      refine ⟨_, v_decider l, by decide, ln', f, s, t, _, _, _, _, _, _, L.length - 1, rfl, rfl, by omega, ?_⟩
      show Post _ _
      rw [d2]
      exact hP1 _ _ (hK _ (isA.mk hOS hAR))
  refine AW.go (bs := b_Appr_decides) [41] 60 t_Appr_decides ?_
  refine ⟨_, v_has l, by decide, f, s, t, rfl, S.1, 4, o, rfl, hR, by omega, ⟨o1, o2⟩, ?_⟩
  refine And.intro (fun h => ?_) (fun h => ?_)
  · rw [zc_beq, decide_eq_false_iff_not] at h; exact fail () (by omega)
  rw [zc_beq, decide_eq_false_iff_not, Classical.not_not] at h
  refine ⟨_, v_isDay l, by decide, rfl, y, rfl, ⟨y1, y2⟩, ?_⟩
  refine And.intro (fun h => ?_) (fun h => ?_)
  · rw [zc_beq, decide_eq_false_iff_not] at h; exact fail () (by omega)
  rw [zc_beq, decide_eq_false_iff_not, Classical.not_not] at h
  refine ⟨_, v_isWhich l, by decide, rfl, q, rfl, ⟨q1, q2⟩, ?_⟩
  refine And.intro (fun h => ?_) (fun h => ?_)
  · rw [zc_beq, decide_eq_false_iff_not] at h; exact fail () (by omega)
  rw [zc_beq, decide_eq_false_iff_not, Classical.not_not] at h
  refine And.intro (fun h => ?_) (fun h => ?_)
  · have h := (zc_eq (b := -1) p1 p2 (by omega) (by omega)).mp h
    exact tail (by omega)
  have h := mt (zc_eq (b := -1) p1 p2 (by omega) (by omega)).mpr h
  refine ⟨_, v_isPerson l, by decide, rfl, p, rfl, ⟨p1, p2⟩, ?_⟩
  refine And.symm (And.intro (fun h => ?_) (fun h => ?_))
  · rw [zc_bne, decide_eq_true_eq] at h; exact fail () (by omega)
  rw [zc_bne, decide_eq_true_eq] at h
  exact tail (by omega)
def mtK (k : Int) : Mt := (-1, -1, k, -1, -1)
def pwF (M : Od) (p y k : Int) : Nat → Int
  | 0 => -2
  | n + 1 => match decF M (mtK k) n y with
    | some (x, L) => if lastP L = p then max (pwF M p y k n) x else pwF M p y k n
    | none => pwF M p y k n
def q_power (M : Od) (p y k : Int) : Int := if 0 ≤ p ∧ p ≤ 15 ∧ 0 ≤ y ∧ y ≤ 999 ∧ 0 ≤ k ∧ k ≤ 2 then pwF M p y k (M.1 4) else -1
theorem mtK_ok {k : Int} (h0 : 0 ≤ k) (h1 : k ≤ 2) : mOK (mtK k) := by
  unfold mOK ir mtK mP mV mK mA mL
  refine ⟨⟨?_, ?_⟩, ⟨?_, ?_⟩, ?_, ?_, ⟨?_, ?_⟩, ⟨?_, ?_⟩⟩ <;> (try simp only []) <;> omega
theorem lastP_rng {L : List Nat} (h : ∀ e ∈ L, e < 16) : 0 ≤ lastP L ∧ lastP L < 16 := by
  unfold lastP
  cases hl : L.getLast? with
  | none => simp
  | some e => have := h e (List.mem_of_getLast? hl); simp; omega
theorem pwF_rng {M : Od} (hO : OKM M) {p y k : Int} (h0 : 0 ≤ k) (h1 : k ≤ 2) : ∀ n, n ≤ M.1 4 → -2 ≤ pwF M p y k n ∧ pwF M p y k n ≤ 9999
  | 0, _ => by simp [pwF]
  | n + 1, hn => by
    have ih := pwF_rng (p := p) (y := y) hO h0 h1 n (by omega)
    unfold pwF
    split
    · next x L hd =>
      have := decF_ok hO (mtK_ok h0 h1) (show n < M.1 4 by omega) hd
      split <;> omega
    · exact ih
set_option maxRecDepth 20000 in
theorem v_power (l : Launch) : z_V l 102 (sp3 40 (qp3 q_power)) := by
  refine z_V.ofP (by decide +kernel) ?_
  rintro as σ K Post ⟨S, ⟨hOS, f, s, t, f1, s1, t1, f2, s2, t2, tb, f3, s3, t3, nu, ln, sp, ls, g, ta, pl, pf, ps, pt, fi, hz, ks, tz, ra, rf, rt, la, lb, lc, mp, mv, mk, mo, my, mw, ma, ml, ak, dy, br, ad, dp, lm, rs, len, rfl, hAR⟩, p, y, k, rfl, ⟨p1, p2⟩, ⟨y1, y2⟩, ⟨k1, k2⟩, hK⟩ hP1 hP0
  obtain ⟨hR, ⟨fq, rfl, hPR⟩, rfl, rfl, a5, a6, rfl, a8⟩ := id hAR
  have hO := hOS.1
  have hx4 := hO.2.2.2.2.2.2.2.2.2 4 (by omega)
  rw [x_4] at hx4
  have hx5 := hO.2.2.2.2.2.2.2.2.2 5 (by omega)
  rw [x_5] at hx5
  unfold qp3 q_power at hK
  simp only [] at hK
  have fail : Unit → ¬ (0 ≤ p ∧ p ≤ 15 ∧ 0 ≤ y ∧ y ≤ 999 ∧ 0 ≤ k ∧ k ≤ 2) → Post (some (.int (iI (-1)))) (wA f s t f1 s1 t1 f2 s2 t2 tb f3 s3 t3 nu ln sp ls g ta pl pf ps pt (iI fq) (iI S.2.1.length) (iI (kmask S.2.2.1 : Nat)) (iI S.2.2.2.1) ra rf rt la lb lc mp mv mk mo my mw ma ml ak dy br ad dp lm rs len) := by
    intro _ hn; rw [if_neg hn] at hK; exact hP1 _ _ (hK _ (isA.mk hOS hAR))
  have hs := hR.size 4 (by omega)
  have loop : (0 ≤ p ∧ p ≤ 15 ∧ 0 ≤ y ∧ y ≤ 999 ∧ 0 ≤ k ∧ k ≤ 2) → ∀ (n i : Nat) (x4 x5 : Int32) (ln : Nat → Int32) (ak dy br ad dp lm rs : Int32), n = S.1.1 4 - i → i ≤ S.1.1 4 → x4 = iI (pwF S.1 p y k i) → x5 = iI (i : Int) →
      AW l 102 40 0 0 75 none Post 40 [some (.ref 0), some (.int (iI p)), some (.int (iI y)), some (.int (iI k)), some (.int x4), some (.int x5)] [] (wA f s t f1 s1 t1 f2 s2 t2 tb f3 s3 t3 nu ln sp ls g ta pl pf ps pt (iI fq) (iI S.2.1.length) (iI (kmask S.2.2.1 : Nat)) (iI S.2.2.2.1) ra rf rt la lb lc (iI (-1)) (iI (-1)) (iI k) (iI 0) (iI 0) (iI 0) (iI (-1)) (iI (-1)) ak dy br ad dp lm rs len) 0 0 := by
    intro hc n
    rw [if_pos hc] at hK
    induction n using Nat.strongRecOn with
    | ind n ih =>
      intro i x4 x5 ln ak dy br ad dp lm rs hn hi e4 e5
      subst e4; subst e5
      refine AW.go (bs := b_Appr_power) [40] 60 t_Appr_power ?_
      refine And.intro (zn_in (by omega) (by omega)) ?_
      refine And.intro (fun h => ?_) (fun h => ?_)
      · rw [zn_cl (by omega), hs, zc_ge (by omega) (by omega) (by omega) (by omega)] at h
        have : i = S.1.1 4 := by omega
        subst this
        exact hP1 _ _ (hK _ (isA.mk hOS hAR))
      rw [zn_cl (by omega), hs, zc_ge (by omega) (by omega) (by omega) (by omega)] at h
      have hi4 : i < S.1.1 4 := by omega
      have hpw := pwF_rng (p := p) (y := y) hO hc.2.2.2.2.1 hc.2.2.2.2.2 i hi
      refine ⟨_, v_ask l, by decide, ln, f, s, t, S.1, mtK k, i, y, _, _, _, _, _, _, _, _, _, _, rfl, rfl, hR, hO, mtK_ok (by omega) (by omega), hi4, ⟨y1, y2⟩, fun ln' ak' dy' br' ad' dp' lm' hres => ?_⟩
      cases hd : decF S.1 (mtK k) i y with
      | none =>
        refine And.intro (fun _ => ?_) (fun h => absurd zt_eqf h)
        exact ih _ (by omega) (i + 1) _ _ _ _ _ _ _ _ _ _ rfl (by omega) (by rw [pwF, hd]) (zn_inc i)
      | some z =>
        obtain ⟨x, L⟩ := z
        rw [hd] at hres
        obtain ⟨g1, g2, g3, g4, g5⟩ := decF_ok hO (mtK_ok hc.2.2.2.2.1 hc.2.2.2.2.2) hi4 hd
        obtain ⟨rfl, d2, rfl⟩ := dec_last hres g3
        have hlp := lastP_rng g5
        refine And.intro (fun h => absurd h zt_neqt) (fun _ => ?_)
        refine ⟨_, v_decider l, by decide, ln', f, s, t, _, _, _, _, _, _, L.length - 1, rfl, rfl, by omega, ?_⟩
        show _ ∧ _
        rw [d2]
        refine And.intro (fun h => ?_) (fun h => ?_)
        · rw [zc_ne (by omega) (by omega) p1 p2] at h
          exact ih _ (by omega) (i + 1) _ _ _ _ _ _ _ _ _ _ rfl (by omega) (by rw [pwF, hd]; simp only []; rw [if_neg h]) (zn_inc i)
        · rw [zc_ne (by omega) (by omega) p1 p2, Classical.not_not] at h
          show AW _ _ _ _ _ _ _ _ _ _ _ _ _ _
          rw [max_iI (by omega) (by omega) (by omega) (by omega)]
          exact ih _ (by omega) (i + 1) _ _ _ _ _ _ _ _ _ _ rfl (by omega) (by rw [pwF, hd]; simp only []; rw [if_pos h]) (zn_inc i)
  refine AW.go (bs := b_Appr_power) [40] 60 t_Appr_power ?_
  refine ⟨_, v_isPerson l, by decide, rfl, p, rfl, ⟨p1, p2⟩, ?_⟩
  refine And.intro (fun h => ?_) (fun h => ?_)
  · rw [zc_beq, decide_eq_false_iff_not] at h; exact fail () (by omega)
  rw [zc_beq, decide_eq_false_iff_not, Classical.not_not] at h
  refine ⟨_, v_isDay l, by decide, rfl, y, rfl, ⟨y1, y2⟩, ?_⟩
  refine And.intro (fun h => ?_) (fun h => ?_)
  · rw [zc_beq, decide_eq_false_iff_not] at h; exact fail () (by omega)
  rw [zc_beq, decide_eq_false_iff_not, Classical.not_not] at h
  refine ⟨_, v_isKind l, by decide, rfl, k, rfl, ⟨k1, k2⟩, ?_⟩
  refine And.symm (And.intro (fun h => ?_) (fun h => ?_))
  · rw [zc_bne, decide_eq_true_eq] at h; exact fail () (by omega)
  rw [zc_bne, decide_eq_true_eq] at h
  refine ⟨_, v_begin l, by decide, mp, mv, mk, mo, my, mw, ma, ml, _, _, _, rfl, rfl, ?_⟩
  exact loop (by omega) _ 0 _ _ _ _ _ _ _ _ _ _ rfl (by omega) rfl rfl
noncomputable def q_ring (M : Od) (y : Int) : Int := if 0 ≤ y ∧ y ≤ 999 then (ringF (gvM M y) : Int) else -1
set_option maxRecDepth 20000 in
theorem v_ring (l : Launch) : z_V l 103 (sp1 40 (qp q_ring)) := by
  refine z_V.ofP (by decide +kernel) ?_
  rintro as σ K Post ⟨S, ⟨hOS, f, s, t, f1, s1, t1, f2, s2, t2, tb, f3, s3, t3, nu, ln, sp, ls, g, ta, pl, pf, ps, pt, fi, hz, ks, tz, ra, rf, rt, la, lb, lc, mp, mv, mk, mo, my, mw, ma, ml, ak, dy, br, ad, dp, lm, rs, len, rfl, hAR⟩, y, rfl, ⟨y1, y2⟩, hK⟩ hP1 hP0
  obtain ⟨hR, ⟨fq, rfl, hPR⟩, rfl, rfl, a5, a6, rfl, a8⟩ := id hAR
  have hO := hOS.1
  have hx4 := hO.2.2.2.2.2.2.2.2.2 4 (by omega)
  rw [x_4] at hx4
  have hx5 := hO.2.2.2.2.2.2.2.2.2 5 (by omega)
  rw [x_5] at hx5
  unfold qp q_ring at hK
  simp only [] at hK
  refine AW.go (bs := b_Appr_ring) [] 60 t_Appr_ring ?_
  refine ⟨_, v_isDay l, by decide, rfl, y, rfl, ⟨y1, y2⟩, ?_⟩
  refine And.symm (And.intro (fun h => ?_) (fun h => ?_))
  · rw [zc_bne, decide_eq_true_eq] at h
    rw [if_neg h] at hK
    exact hP1 _ _ (hK _ (isA.mk hOS hAR))
  rw [zc_bne, decide_eq_true_eq] at h
  rw [if_pos h] at hK
  refine ⟨_, v_spin l, by decide, g, f, s, t, S.1, y, rfl, rfl, hR, hO, ⟨y1, y2⟩, fun g' hg => ?_⟩
  refine ⟨_, v_ringBits l, by decide, g', gvM S.1 y, rfl, fun p hp => ⟨hg p hp, gvM_lt hO y p⟩, rfl, ?_⟩
  exact hP1 _ _ (hK _ (isA.mk hOS hAR))
def q_tangle (M : Od) (y : Int) : Int := if 0 ≤ y ∧ y ≤ 999 then (tgF (gvM M y) : Int) else -1
set_option maxRecDepth 20000 in
theorem v_tangle (l : Launch) : z_V l 119 (sp1 40 (qp q_tangle)) := by
  refine z_V.ofP (by decide +kernel) ?_
  rintro as σ K Post ⟨S, ⟨hOS, f, s, t, f1, s1, t1, f2, s2, t2, tb, f3, s3, t3, nu, ln, sp, ls, g, ta, pl, pf, ps, pt, fi, hz, ks, tz, ra, rf, rt, la, lb, lc, mp, mv, mk, mo, my, mw, ma, ml, ak, dy, br, ad, dp, lm, rs, len, rfl, hAR⟩, y, rfl, ⟨y1, y2⟩, hK⟩ hP1 hP0
  obtain ⟨hR, ⟨fq, rfl, hPR⟩, rfl, rfl, a5, a6, rfl, a8⟩ := id hAR
  have hO := hOS.1
  have hx4 := hO.2.2.2.2.2.2.2.2.2 4 (by omega)
  rw [x_4] at hx4
  have hx5 := hO.2.2.2.2.2.2.2.2.2 5 (by omega)
  rw [x_5] at hx5
  unfold qp q_tangle at hK
  simp only [] at hK
  refine AW.go (bs := b_Appr_tangle) [] 60 t_Appr_tangle ?_
  refine ⟨_, v_isDay l, by decide, rfl, y, rfl, ⟨y1, y2⟩, ?_⟩
  refine And.symm (And.intro (fun h => ?_) (fun h => ?_))
  · rw [zc_bne, decide_eq_true_eq] at h
    rw [if_neg h] at hK
    exact hP1 _ _ (hK _ (isA.mk hOS hAR))
  rw [zc_bne, decide_eq_true_eq] at h
  rw [if_pos h] at hK
  refine ⟨_, v_spin l, by decide, g, f, s, t, S.1, y, rfl, rfl, hR, hO, ⟨y1, y2⟩, fun g' hg => ?_⟩
  refine ⟨_, v_longestLine l, by decide, g', gvM S.1 y, rfl, fun p hp => ⟨hg p hp, gvM_lt hO y p⟩, rfl, ?_⟩
  exact hP1 _ _ (hK _ (isA.mk hOS hAR))
