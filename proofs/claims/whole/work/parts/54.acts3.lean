theorem zt_net : z_cond .ne (bI true) 0 := (zc_bne _).mpr rfl
theorem zt_eqf : z_cond .eq (bI false) 0 := (zc_beq _).mpr rfl
theorem zt_neqt : ¬ z_cond .eq (bI true) 0 := fun h => Bool.noConfusion ((zc_beq _).mp h)
theorem zt_eq0 : z_cond .eq (iI 0) 0 := show iI 0 = 0 by decide
theorem kmask_o1 (M : Od) (k : Option Od × Option Od) : kmask k ||| 1 = kmask (some M, k.2) := by
  have key : ∀ a b : Bool, ((if a = true then 1 else 0) + (if b = true then 2 else 0) : Nat) ||| 1 = (if true = true then 1 else 0) + (if b = true then 2 else 0) := by decide
  exact key _ _
theorem kmask_o2 (M : Od) (k : Option Od × Option Od) : kmask k ||| 2 = kmask (k.1, some M) := by
  have key : ∀ a b : Bool, ((if a = true then 1 else 0) + (if b = true then 2 else 0) : Nat) ||| 2 = (if a = true then 1 else 0) + (if true = true then 2 else 0) := by decide
  exact key _ _
def f_keep (S : St) (k : Int) : Int × St := if k = 0 then ((S.1.1 5 : Int), (S.1, S.2.1, (some S.1, S.2.2.1.2), S.2.2.2)) else if k = 1 then ((S.1.1 5 : Int), (S.1, S.2.1, (S.2.2.1.1, some S.1), S.2.2.2)) else (-1, S)
theorem kmask_lt (k : Option Od × Option Od) : kmask k < 4 := by
  unfold kmask
  split <;> split <;> omega
set_option maxRecDepth 20000 in
theorem v_keep (l : Launch) : z_V l 92 (sp1 40 f_keep) := by
  refine z_V.ofP (by decide +kernel) ?_
  rintro as σ K Post ⟨S, ⟨hOS, f, s, t, f1, s1, t1, f2, s2, t2, tb, f3, s3, t3, nu, ln, sp, ls, g, ta, pl, pf, ps, pt, fi, hz, ks, tz, ra, rf, rt, la, lb, lc, mp, mv, mk, mo, my, mw, ma, ml, ak, dy, br, ad, dp, lm, rs, len, rfl, hAR⟩, k, rfl, ⟨k1, k2⟩, hK⟩ hP1 hP0
  obtain ⟨hR, ⟨fq, rfl, hPR⟩, rfl, rfl, a5, a6, rfl, a8⟩ := id hAR
  have hO := hOS.1
  have hx4 := hO.2.2.2.2.2.2.2.2.2 4 (by omega)
  rw [x_4] at hx4
  have hx5 := hO.2.2.2.2.2.2.2.2.2 5 (by omega)
  rw [x_5] at hx5
  unfold f_keep at hK
  refine AW.go (bs := b_Appr_keep) [] 60 t_Appr_keep ?_
  refine ⟨_, v_isShelf l, by decide, rfl, k, rfl, ⟨k1, k2⟩, ?_⟩
  refine And.symm (And.intro (fun h => ?_) (fun h => ?_))
  · rw [zc_bne, decide_eq_true_eq] at h
    rw [if_neg (by omega), if_neg (by omega)] at hK
    exact hP1 _ _ (hK _ (isA.mk hOS hAR))
  · rw [zc_bne, decide_eq_true_eq] at h
    have hk : k = 0 ∨ k = 1 := by omega
    rcases hk with rfl | rfl
    · rw [if_pos rfl] at hK
      refine ⟨48, zN_in (t := 0) (by decide) (by decide), rfl, ?_⟩
      refine ⟨_, v_copyFrom l, by decide, f1, s1, t1, f, s, t, S.1, rfl, rfl, hR, fun f' s' t' h' => ?_⟩
      refine And.intro (zn_in (by omega) (by omega)) ?_
      show Post _ _
      rw [zn_cl (by omega), hR.size 5 (by omega)]
      refine hP1 _ _ (hK _ (isA.mk ⟨hOS.1, hOS.2.1, hOS.2.2.1, fun M e => ?_, hOS.2.2.2.2⟩ ⟨hR, ⟨fq, rfl, hPR⟩, rfl, ?_, fun M e => ?_, a6, rfl, a8⟩))
      · cases e; exact hO
      · rw [show z_nn 1 0 = iI 1 from rfl, show iI 1 <<< (iI 0 &&& 31) = iI ((1 : Nat) : Int) from by decide, zb_or]
        rw [kmask_o1 S.1]
      · cases e; exact h'
    · rw [if_neg (by omega), if_pos rfl] at hK
      refine ⟨52, zN_in (t := 1) (by decide) (by decide), rfl, ?_⟩
      refine ⟨_, v_copyFrom l, by decide, f2, s2, t2, f, s, t, S.1, rfl, rfl, hR, fun f' s' t' h' => ?_⟩
      refine And.intro (zn_in (by omega) (by omega)) ?_
      show Post _ _
      rw [zn_cl (by omega), hR.size 5 (by omega)]
      refine hP1 _ _ (hK _ (isA.mk ⟨hOS.1, hOS.2.1, hOS.2.2.1, hOS.2.2.2.1, fun M e => ?_, hOS.2.2.2.2.2⟩ ⟨hR, ⟨fq, rfl, hPR⟩, rfl, ?_, a5, fun M e => ?_, rfl, a8⟩))
      · cases e; exact hO
      · rw [show z_nn 1 0 = iI 1 from rfl, show iI 1 <<< (iI 1 &&& 31) = iI ((2 : Nat) : Int) from by decide, zb_or]
        rw [kmask_o2 S.1]
      · cases e; exact h'
def f_back (S : St) (k : Int) : Int × St := if k = 0 then (match S.2.2.1.1 with | none => (-2, S) | some M => ((M.1 5 : Int), (M, [], S.2.2))) else if k = 1 then (match S.2.2.1.2 with | none => (-2, S) | some M => ((M.1 5 : Int), (M, [], S.2.2))) else (-1, S)
theorem kmask_0 (k : Option Od × Option Od) : (kmask k).testBit 0 = k.1.isSome := by
  have key : ∀ a b : Bool, ((if a = true then 1 else 0) + (if b = true then 2 else 0) : Nat).testBit 0 = a := by decide
  exact key _ _
theorem kmask_1 (k : Option Od × Option Od) : (kmask k).testBit 1 = k.2.isSome := by
  have key : ∀ a b : Bool, ((if a = true then 1 else 0) + (if b = true then 2 else 0) : Nat).testBit 1 = b := by decide
  exact key _ _
theorem PR.nil (pf ps pt : Nat → Nat → Int32) {q : Nat} (h : q < 10) : PR pf ps pt q [] := ⟨h, by simp, fun i M h => by simp at h⟩
set_option maxRecDepth 20000 in
theorem v_back (l : Launch) : z_V l 93 (sp1 40 f_back) := by
  refine z_V.ofP (by decide +kernel) ?_
  rintro as σ K Post ⟨S, ⟨hOS, f, s, t, f1, s1, t1, f2, s2, t2, tb, f3, s3, t3, nu, ln, sp, ls, g, ta, pl, pf, ps, pt, fi, hz, ks, tz, ra, rf, rt, la, lb, lc, mp, mv, mk, mo, my, mw, ma, ml, ak, dy, br, ad, dp, lm, rs, len, rfl, hAR⟩, k, rfl, ⟨k1, k2⟩, hK⟩ hP1 hP0
  obtain ⟨hR, ⟨fq, rfl, hPR⟩, rfl, rfl, a5, a6, rfl, a8⟩ := id hAR
  have hO := hOS.1
  have hx4 := hO.2.2.2.2.2.2.2.2.2 4 (by omega)
  rw [x_4] at hx4
  have hx5 := hO.2.2.2.2.2.2.2.2.2 5 (by omega)
  rw [x_5] at hx5
  unfold f_back at hK
  have hkm := kmask_lt S.2.2.1
  refine AW.go (bs := b_Appr_back) [] 60 t_Appr_back ?_
  refine ⟨_, v_isShelf l, by decide, rfl, k, rfl, ⟨k1, k2⟩, ?_⟩
  refine And.symm (And.intro (fun h => ?_) (fun h => ?_))
  · rw [zc_bne, decide_eq_true_eq] at h
    rw [if_neg (by omega), if_neg (by omega)] at hK
    exact hP1 _ _ (hK _ (isA.mk hOS hAR))
  · rw [zc_bne, decide_eq_true_eq] at h
    have hk : k = 0 ∨ k = 1 := by omega
    rcases hk with rfl | rfl
    · rw [if_pos rfl] at hK
      refine ⟨_, v_isIn l, by decide, rfl, kmask S.2.2.1, 0, rfl, by omega, by omega, ?_⟩
      rw [kmask_0]
      cases hM : S.2.2.1.1 with
      | none =>
        rw [hM] at hK
        refine And.symm (And.intro (fun _ => ?_) (fun h => absurd h (fun q => q rfl)))
        exact hP1 _ _ (hK _ (isA.mk hOS hAR))
      | some M =>
        rw [hM] at hK
        have hM' := a5 M hM
        refine And.symm (And.intro (fun h => absurd zt_net h) (fun _ => ?_))
        refine ⟨48, zN_in (t := 0) (by decide) (by decide), rfl, ?_⟩
        refine ⟨_, v_copyFrom l, by decide, f, s, t, f1, s1, t1, M, rfl, rfl, hM', fun f' s' t' h' => ?_⟩
        refine ⟨_, v_forget l, by decide, pf, ps, pt, _, _, rfl, rfl, ?_⟩
        refine And.intro (zn_in (by omega) (by omega)) ?_
        show Post _ _
        rw [zn_cl (by omega), h'.size 5 (by omega)]
        exact hP1 _ _ (hK _ (isA.mk ⟨hOS.2.2.2.1 M hM, fun _ h => by simp at h, by simp, hOS.2.2.2⟩ ⟨h', ⟨fq, rfl, PR.nil _ _ _ hPR.1⟩, rfl, rfl, a5, a6, rfl, a8⟩))
    · rw [if_neg (by omega), if_pos rfl] at hK
      refine ⟨_, v_isIn l, by decide, rfl, kmask S.2.2.1, 1, rfl, by omega, by omega, ?_⟩
      rw [kmask_1]
      cases hM : S.2.2.1.2 with
      | none =>
        rw [hM] at hK
        refine And.symm (And.intro (fun _ => ?_) (fun h => absurd h (fun q => q rfl)))
        exact hP1 _ _ (hK _ (isA.mk hOS hAR))
      | some M =>
        rw [hM] at hK
        have hM' := a6 M hM
        refine And.symm (And.intro (fun h => absurd zt_net h) (fun _ => ?_))
        refine ⟨52, zN_in (t := 1) (by decide) (by decide), rfl, ?_⟩
        refine ⟨_, v_copyFrom l, by decide, f, s, t, f2, s2, t2, M, rfl, rfl, hM', fun f' s' t' h' => ?_⟩
        refine ⟨_, v_forget l, by decide, pf, ps, pt, _, _, rfl, rfl, ?_⟩
        refine And.intro (zn_in (by omega) (by omega)) ?_
        show Post _ _
        rw [zn_cl (by omega), h'.size 5 (by omega)]
        exact hP1 _ _ (hK _ (isA.mk ⟨hOS.2.2.2.2.1 M hM, fun _ h => by simp at h, by simp, hOS.2.2.2⟩ ⟨h', ⟨fq, rfl, PR.nil _ _ _ hPR.1⟩, rfl, rfl, a5, a6, rfl, a8⟩))
/-- the tape with four bytes more -/
def tAdd (T : Nat × (Nat → Int32)) (a : Int32) : Nat × (Nat → Int32) := (T.1 + 4, fun i => if i < T.1 then T.2 i else bt a (i - T.1))
def f_feed (S : St) (a b c d e : Int) : Int × St := if 400 < S.2.2.2.1 + 20 then (-1, S) else ((S.2.2.2.1 : Int) + 20, (S.1, S.2.1, S.2.2.1, tAdd (tAdd (tAdd (tAdd (tAdd S.2.2.2 (iI a)) (iI b)) (iI c)) (iI d)) (iI e)))
theorem tAdd_eq {T : Nat × (Nat → Int32)} {tb tb' : Nat → Int32} {a : Int32} (h : ∀ i, i < T.1 → tb i = T.2 i) (h1 : ∀ i, i < T.1 → tb' i = tb i) (h2 : ∀ j, j < 4 → tb' (T.1 + j) = bt a j) : ∀ i, i < (tAdd T a).1 → tb' i = (tAdd T a).2 i := by
  intro i hi
  replace hi : i < T.1 + 4 := hi
  show tb' i = if i < T.1 then T.2 i else bt a (i - T.1)
  split
  · next q => rw [h1 i q, h i q]
  · next q =>
    have := h2 (i - T.1) (by omega)
    rw [show T.1 + (i - T.1) = i by omega] at this
    exact this
set_option maxRecDepth 20000 in
theorem v_feed (l : Launch) : z_V l 78 (sp5 40 f_feed) := by
  refine z_V.ofP (by decide +kernel) ?_
  rintro as σ K Post ⟨S, ⟨hOS, f, s, t, f1, s1, t1, f2, s2, t2, tb, f3, s3, t3, nu, ln, sp, ls, g, ta, pl, pf, ps, pt, fi, hz, ks, tz, ra, rf, rt, la, lb, lc, mp, mv, mk, mo, my, mw, ma, ml, ak, dy, br, ad, dp, lm, rs, len, rfl, hAR⟩, a, b, c, d, e, rfl, -, -, -, -, -, hK⟩ hP1 hP0
  obtain ⟨hR, ⟨fq, rfl, hPR⟩, rfl, rfl, a5, a6, rfl, a8⟩ := id hAR
  have hO := hOS.1
  have hx4 := hO.2.2.2.2.2.2.2.2.2 4 (by omega)
  rw [x_4] at hx4
  have hx5 := hO.2.2.2.2.2.2.2.2.2 5 (by omega)
  rw [x_5] at hx5
  have ht := hOS.2.2.2.2.2
  unfold f_feed at hK
  refine AW.go (bs := b_Appr_feed) [] 90 t_Appr_feed ?_
  refine And.symm (And.intro (fun h => ?_) (fun h => ?_))
  · rw [zn_i, zn_i, iI_add, zc_le (by omega) (by omega) (by omega) (by omega)] at h
    rw [if_pos (by omega)] at hK
    exact hP1 _ _ (hK _ (isA.mk hOS hAR))
  · rw [zn_i, zn_i, iI_add, zc_le (by omega) (by omega) (by omega) (by omega)] at h
    rw [if_neg (by omega)] at hK
    refine ⟨_, v_add l, by decide, tb, S.2.2.2.1, iI a, rfl, rfl, by omega, fun tb1 g1 g2 => ?_⟩
    have h1 := tAdd_eq (T := S.2.2.2) a8 g1 g2
    refine ⟨_, v_add l, by decide, tb1, S.2.2.2.1 + 4, iI b, rfl, rfl, by omega, fun tb2 g1 g2 => ?_⟩
    have h2 := tAdd_eq h1 g1 g2
    refine ⟨_, v_add l, by decide, tb2, S.2.2.2.1 + 4 + 4, iI c, rfl, rfl, by omega, fun tb3 g1 g2 => ?_⟩
    have h3 := tAdd_eq h2 g1 g2
    refine ⟨_, v_add l, by decide, tb3, S.2.2.2.1 + 4 + 4 + 4, iI d, rfl, rfl, by omega, fun tb4 g1 g2 => ?_⟩
    have h4 := tAdd_eq h3 g1 g2
    refine ⟨_, v_add l, by decide, tb4, S.2.2.2.1 + 4 + 4 + 4 + 4, iI e, rfl, rfl, by omega, fun tb5 g1 g2 => ?_⟩
    have h5 := tAdd_eq h4 g1 g2
    show Post _ _
    rw [show ((S.2.2.2.1 + 4 + 4 + 4 + 4 + 4 : Nat) : Int) = (S.2.2.2.1 : Int) + 20 by omega]
    refine hP1 _ _ (hK _ (isA.mk ⟨hOS.1, hOS.2.1, hOS.2.2.1, hOS.2.2.2.1, hOS.2.2.2.2.1, ?_⟩ ⟨hR, ⟨fq, rfl, hPR⟩, rfl, rfl, a5, a6, ?_, h5⟩))
    · show S.2.2.2.1 + 4 + 4 + 4 + 4 + 4 ≤ 400
      omega
    · show iI ((S.2.2.2.1 : Int) + 20) = iI ((S.2.2.2.1 + 4 + 4 + 4 + 4 + 4 : Nat) : Int)
      congr 1
def f_end (S : St) (n : Int) : Int × St := if 0 ≤ n ∧ n ≤ S.2.2.2.1 then (n, (S.1, S.2.1, S.2.2.1, (n.toNat, S.2.2.2.2))) else (-1, S)
set_option maxRecDepth 20000 in
theorem v_end (l : Launch) : z_V l 79 (sp1 40 f_end) := by
  refine z_V.ofP (by decide +kernel) ?_
  rintro as σ K Post ⟨S, ⟨hOS, f, s, t, f1, s1, t1, f2, s2, t2, tb, f3, s3, t3, nu, ln, sp, ls, g, ta, pl, pf, ps, pt, fi, hz, ks, tz, ra, rf, rt, la, lb, lc, mp, mv, mk, mo, my, mw, ma, ml, ak, dy, br, ad, dp, lm, rs, len, rfl, hAR⟩, n, rfl, ⟨n1, n2⟩, hK⟩ hP1 hP0
  obtain ⟨hR, ⟨fq, rfl, hPR⟩, rfl, rfl, a5, a6, rfl, a8⟩ := id hAR
  have hO := hOS.1
  have hx4 := hO.2.2.2.2.2.2.2.2.2 4 (by omega)
  rw [x_4] at hx4
  have hx5 := hO.2.2.2.2.2.2.2.2.2 5 (by omega)
  rw [x_5] at hx5
  have ht := hOS.2.2.2.2.2
  unfold f_end at hK
  have fail : Unit → ¬ (0 ≤ n ∧ n ≤ S.2.2.2.1) → Post (some (.int (iI (-1)))) (wA f s t f1 s1 t1 f2 s2 t2 tb f3 s3 t3 nu ln sp ls g ta pl pf ps pt (iI fq) (iI S.2.1.length) (iI (kmask S.2.2.1 : Nat)) (iI S.2.2.2.1) ra rf rt la lb lc mp mv mk mo my mw ma ml ak dy br ad dp lm rs len) := by
    intro _ hn; rw [if_neg hn] at hK; exact hP1 _ _ (hK _ (isA.mk hOS hAR))
  refine AW.go (bs := b_Appr_end) [] 60 t_Appr_end ?_
  refine And.intro (fun h => ?_) (fun h => ?_)
  · rw [zc_lt0 n1 n2] at h; exact fail () (by omega)
  rw [zc_lt0 n1 n2] at h
  refine And.symm (And.intro (fun h => ?_) (fun h => ?_))
  · rw [zc_le n1 n2 (by omega) (by omega)] at h; exact fail () (by omega)
  · rw [zc_le n1 n2 (by omega) (by omega)] at h
    rw [if_pos (by omega)] at hK
    refine hP1 _ _ (hK _ (isA.mk ⟨hOS.1, hOS.2.1, hOS.2.2.1, hOS.2.2.2.1, hOS.2.2.2.2.1, ?_⟩ ⟨hR, ⟨fq, rfl, hPR⟩, rfl, rfl, a5, a6, ?_, fun i hi => a8 i ?_⟩))
    · show n.toNat ≤ 400; omega
    · show iI n = iI ((n.toNat : Nat) : Int); congr 1; omega
    · replace hi : i < n.toNat := hi
      omega
