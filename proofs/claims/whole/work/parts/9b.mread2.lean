/-! the model reads numbers -/
def mvF (T : Tp) (s : Nat) : Nat → Int
  | 0 => 0
  | k + 1 => if mvF T s k < 100000 then 10 * mvF T s k + tbt T (s + k) - 48 else mvF T s k
set_option maxRecDepth 20000 in
theorem mvF_min {T : Tp} {s : Nat} : ∀ {k : Nat}, (∀ i, s ≤ i → i < s + k → isDg T i = true) → nvF T s k = min 100000 (mvF T s k) ∧ 0 ≤ mvF T s k ∧ mvF T s k ≤ 1000000
  | 0, _ => by simp only [nvF, mvF]; omega
  | k + 1, h => by
    have h1 := mvF_min (k := k) (fun i a b => h i a (by omega))
    have h2 := of_decide_eq_true (h (s + k) (by omega) (by omega))
    rw [nvF, mvF]
    split <;> omega
def sp_mrnum : Sp := (2, 0, 0, pMd, fun as σ K => ∃ (now was kept isk ln sp ls ld tb rd : Nat → Int32) (und gon lef ak vn dy asd lma lim rea sts apr tz spo wro num nuA stl spe wan fou : Int32) (T : Tp) (a : Nat) (lo hi : Int), as = [.ref 0, .int (iI lo), .int (iI hi)] ∧ σ = (wMd now was kept isk ln sp ls ld tb rd und gon lef ak vn dy asd lma lim rea sts apr (iI (T.1 : Int)) (iI ((a : Nat) : Int)) wro num nuA stl spe wan fou) ∧ TB T tb ∧ a ≤ T.1 ∧ (-1 ≤ lo ∧ lo ≤ 100000) ∧ (-1 ≤ hi ∧ hi ≤ 9999) ∧
  (∀ v e, rdN T (fun v => decide (lo ≤ v ∧ v ≤ hi)) a = .inr (v, e) → K (some (.int (iI 1))) (some (wMd now was kept isk ln sp ls ld tb rd und gon lef ak vn dy asd lma lim rea sts apr (iI (T.1 : Int)) (iI ((e : Nat) : Int)) wro (iI v) (iI ((sk T a : Nat) : Int)) stl spe wan fou))) ∧ (∀ F : Nat, rdN T (fun v => decide (lo ≤ v ∧ v ≤ hi)) a = .inl F → ∀ spo num nuA, K (some (.int (iI 0))) (some (wMd now was kept isk ln sp ls ld tb rd und gon lef ak vn dy asd lma lim rea sts apr (iI (T.1 : Int)) spo (iI (F : Int)) num nuA stl spe wan fou))))
set_option maxRecDepth 20000 in
theorem v_mrnum (l : Launch) : z_V l 240 sp_mrnum := by
  refine z_V.ofP (by decide +kernel) ?_
  rintro as σ K Post ⟨now, was, kept, isk, ln, sp, ls, ld, tb, rd, und, gon, lef, ak, vn, dy, asd, lma, lim, rea, sts, apr, tz, spo, wro, num, nuA, stl, spe, wan, fou, T, a, lo, hi, rfl, rfl, hT, ha, hlo, hhi, hS, hF⟩ hP1 hP0
  have h4 := hT.1
  have hs := sk_rng ha
  unfold rdN at hS hF
  have hr := tb_rng T (sk T a)
  have loop : ∀ (n x : Nat) (num spo : Int32), n = T.1 - x → sk T a ≤ x → x ≤ T.1 → isDg T (sk T a) = true → (∀ i, sk T a ≤ i → i < x → isDg T i = true) → num = iI (mvF T (sk T a) (x - sk T a)) → spo = iI (x : Int) →
      AW l 240 2 0 0 11 none Post 40 [some (.ref 0), some (.int (iI lo)), some (.int (iI hi))] [] (wMd now was kept isk ln sp ls ld tb rd und gon lef ak vn dy asd lma lim rea sts apr (iI (T.1 : Int)) spo wro num (iI ((sk T a : Nat) : Int)) stl spe wan fou) 0 0 := by
    intro n
    induction n using Nat.strongRecOn with
    | ind n ih =>
      intro x num spo hn hx1 hx2 h0 hd e1 e2
      subst e1; subst e2
      obtain ⟨m1, m2, m3⟩ := mvF_min (T := T) (s := sk T a) (k := x - sk T a) (fun i q1 q2 => hd i q1 (by omega))
      have hrx := tb_rng T x
      refine AW.go (bs := b_Mod_readsNumber) [40, 94] 60 t_Mod_readsNumber ?_
      refine ⟨_, v_mbyteAt l, by decide, _, _, _, _, _, _, _, _, _, _, _, _, _, _, _, _, _, _, _, _, _, _, 0, _, _, _, _, _, _, _, _, T, x, rfl, rfl, hT, by omega, ?_⟩
      refine ⟨_, v_in l, by decide, rfl, tbt T x, 48, 57, _, _, _, rfl, l_i (by omega) (by omega), l_k 48, l_k 57, ⟨by omega, by omega⟩, ⟨by omega, by omega⟩, ⟨by omega, by omega⟩, ?_⟩
      refine And.intro (fun h => ?_) (fun h => ?_)
      · rw [zc_beq, decide_eq_false_iff_not] at h
        have hde : de T (sk T a) = x := run_eq hx1 (by omega) hd (decide_eq_false h)
        have hxs : x ≠ sk T a := fun q => by subst q; rw [show isDg T _ = _ from decide_eq_false h] at h0; cases h0
        rw [if_neg (by omega)] at hS hF
        have hnv : nv T (sk T a) = min 100000 (mvF T (sk T a) (x - sk T a)) := by unfold nv; rw [hde]; exact m1
        refine ⟨_, v_in l, by decide, rfl, mvF T (sk T a) (x - sk T a), lo, hi, _, _, _, rfl, l_i (by omega) (by omega), l_i (by omega) (by omega), l_i (by omega) (by omega), ⟨by omega, by omega⟩, ⟨by omega, by omega⟩, ⟨by omega, by omega⟩, ?_⟩
        refine And.intro (fun q => ?_) (fun q => ?_)
        · rw [zc_bne, decide_eq_true_eq] at q
          have hv : mvF T (sk T a) (x - sk T a) = nv T (sk T a) := by omega
          have hS := hS (nv T (sk T a)) x (by rw [if_pos (decide_eq_true (by omega)), hde])
          rw [← hv] at hS
          exact And.intro (Or.inr rfl) (hP1 _ _ hS)
        · rw [zc_bne, decide_eq_true_eq] at q
          have hF := hF (8 * sk T a + 2) (by rw [if_neg (by rw [decide_eq_true_eq]; omega)])
          refine ⟨_, v_mfails l, by decide, _, _, _, _, _, _, _, _, _, _, _, _, _, _, _, _, _, _, _, _, _, _, _, _, _, _, _, _, _, _, _, 2, sk T a, rfl, rfl, ?_⟩
          refine And.intro (fun _ => ?_) (fun w => absurd rfl w)
          exact And.intro (Or.inl rfl) (hP1 _ _ (hF _ _ _))
      · rw [zc_beq, decide_eq_false_iff_not, Classical.not_not] at h
        have hx3 : x < T.1 := by
          by_cases q : x < T.1
          · exact q
          · rw [tb_out (by omega)] at h; omega
        have tail : ∀ num : Int32, num = iI (mvF T (sk T a) (x + 1 - sk T a)) → AW l 240 2 0 0 11 none Post 94 [some (.ref 0), some (.int (iI lo)), some (.int (iI hi))] [] (wMd now was kept isk ln sp ls ld tb rd und gon lef ak vn dy asd lma lim rea sts apr (iI (T.1 : Int)) (iI (x : Int)) wro num (iI ((sk T a : Nat) : Int)) stl spe wan fou) 0 0 := by
          intro num hnum
          refine AW.go (bs := b_Mod_readsNumber) [40] 60 t_Mod_readsNumber ?_
          refine ih _ (by omega) (x + 1) _ _ rfl (by omega) (by omega) h0 (fun i q1 q2 => ?_) hnum (zn_inc _)
          by_cases q : i = x
          · subst q; exact decide_eq_true h
          · exact hd i q1 (by omega)
        have eT : mvF T (sk T a) (x + 1 - sk T a) = if mvF T (sk T a) (x - sk T a) < 100000 then 10 * mvF T (sk T a) (x - sk T a) + tbt T x - 48 else mvF T (sk T a) (x - sk T a) := by
          rw [show x + 1 - sk T a = (x - sk T a) + 1 by omega, mvF, show sk T a + (x - sk T a) = x by omega]
        refine And.intro (fun q => ?_) (fun q => ?_)
        · rw [iI_nI, zc_ge (by omega) (by omega) (by omega) (by omega)] at q
          exact tail _ (by rw [eT, if_neg (by omega)])
        · rw [iI_nI, zc_ge (by omega) (by omega) (by omega) (by omega)] at q
          refine ⟨_, v_mbyteAt l, by decide, _, _, _, _, _, _, _, _, _, _, _, _, _, _, _, _, _, _, _, _, _, _, 0, _, _, _, _, _, _, _, _, T, x, rfl, rfl, hT, by omega, ?_⟩
          exact tail _ (by rw [eT, if_pos (by omega), zn_i, zn_i, iI_mul, iI_add, iI_sub]; rfl)
  refine AW.go (bs := b_Mod_readsNumber) [40] 60 t_Mod_readsNumber ?_
  refine ⟨_, v_mnext l, by decide, _, _, _, _, _, _, _, _, _, _, _, _, _, _, _, _, _, _, _, _, _, _, 0, 0, _, _, _, _, _, _, _, T, a, rfl, rfl, hT, ha, ?_⟩
  refine ⟨_, v_in l, by decide, rfl, tbt T (sk T a), 48, 57, _, _, _, rfl, l_i (by omega) (by omega), l_k 48, l_k 57, ⟨by omega, by omega⟩, ⟨by omega, by omega⟩, ⟨by omega, by omega⟩, ?_⟩
  refine And.symm (And.intro (fun h => ?_) (fun h => ?_))
  · rw [zc_bne, decide_eq_true_eq] at h
    have hde : de T (sk T a) = sk T a := run_eq (Nat.le_refl _) (by omega) (fun i q1 q2 => by omega) (decide_eq_false h)
    have hF := hF (8 * sk T a + 1) (by rw [if_pos hde])
    refine ⟨_, v_mfails l, by decide, _, _, _, _, _, _, _, _, _, _, _, _, _, _, _, _, _, _, _, _, _, _, _, _, _, _, _, _, _, _, _, 1, sk T a, rfl, rfl, ?_⟩
    exact And.intro (Or.inl rfl) (hP1 _ _ (hF _ _ _))
  · rw [zc_bne, decide_eq_true_eq] at h
    exact loop _ (sk T a) _ _ rfl (Nat.le_refl _) hs.2 (decide_eq_true h) (fun i q1 q2 => by omega) (by rw [Nat.sub_self]; rfl) rfl
def sp_mrto : Sp := (3, 0, 0, pMd, fun as σ K => ∃ (now was kept isk ln sp ls ld tb rd : Nat → Int32) (und gon lef ak vn dy asd lma lim rea sts apr tz spo wro num nuA stl spe wan fou : Int32) (T : Tp) (a j : Nat) (lo hi : Int) (xa xl xh : Int32), as = [.ref 0, .int xa, .int xl, .int xh] ∧ xa = iI (j : Int) ∧ xl = iI lo ∧ xh = iI hi ∧ σ = (wMd now was kept isk ln sp ls ld tb rd und gon lef ak vn dy asd lma lim rea sts apr (iI (T.1 : Int)) (iI ((a : Nat) : Int)) wro num nuA stl spe wan fou) ∧ TB T tb ∧ a ≤ T.1 ∧ j < 657 ∧ (-1 ≤ lo ∧ lo ≤ 100000) ∧ (-1 ≤ hi ∧ hi ≤ 9999) ∧
  (∀ v e, rdN T (fun v => decide (lo ≤ v ∧ v ≤ hi)) a = .inr (v, e) → ∀ num, K (some (.int (iI 1))) (some (wMd now was kept isk ln sp ls ld tb (upd rd j (iI v)) und gon lef ak vn dy asd lma lim rea sts apr (iI (T.1 : Int)) (iI ((e : Nat) : Int)) wro num (iI ((sk T a : Nat) : Int)) stl spe wan fou))) ∧ (∀ F : Nat, rdN T (fun v => decide (lo ≤ v ∧ v ≤ hi)) a = .inl F → ∀ spo num nuA, K (some (.int (iI 0))) (some (wMd now was kept isk ln sp ls ld tb rd und gon lef ak vn dy asd lma lim rea sts apr (iI (T.1 : Int)) spo (iI (F : Int)) num nuA stl spe wan fou))))
set_option maxRecDepth 20000 in
theorem v_mrto (l : Launch) : z_V l 241 sp_mrto := by
  refine z_V.ofP (by decide +kernel) ?_
  rintro as σ K Post ⟨now, was, kept, isk, ln, sp, ls, ld, tb, rd, und, gon, lef, ak, vn, dy, asd, lma, lim, rea, sts, apr, tz, spo, wro, num, nuA, stl, spe, wan, fou, T, a, j, lo, hi, xa, xl, xh, rfl, rfl, rfl, rfl, rfl, hT, ha, hj, hlo, hhi, hS, hF⟩ hP1 hP0
  refine AW.go (bs := b_Mod_readsTo) [] 60 t_Mod_readsTo ?_
  refine ⟨_, v_mrnum l, by decide, _, _, _, _, _, _, _, _, _, _, _, _, _, _, _, _, _, _, _, _, _, _, 0, 0, _, _, _, _, _, _, _, T, a, lo, hi, rfl, rfl, hT, ha, hlo, hhi, fun v e q => ?_, fun F q spo num nuA => ?_⟩
  · refine And.intro (fun _ => ?_) (fun w => absurd (show z_cond .ne (iI 1) 0 by first | decide | (rw [zd_iff]; decide)) w)
    refine And.intro (zN_in hj (by omega)) ?_
    show _ ∧ Post _ _
    rw [zN_cl (by omega)]
    exact And.intro (Or.inr rfl) (hP1 _ _ (hS v e q _))
  · refine And.intro (fun w => absurd w (by first | decide | (rw [zd_iff]; decide))) (fun _ => ?_)
    exact And.intro (Or.inl rfl) (hP1 _ _ (hF F q _ _ _))
/-- numbers were written there -/
def wrote (rd rd' : Nat → Int32) (j : Nat) (vs : List Int) : Prop := (∀ c, c < vs.length → rd' (j + c) = iI (vs.getD c 0)) ∧ ∀ y, (y < j ∨ j + vs.length ≤ y) → rd' y = rd y
set_option maxRecDepth 20000 in
theorem wrote_nil (rd : Nat → Int32) (j : Nat) : wrote rd rd j [] := ⟨fun c hc => absurd hc (Nat.not_lt_zero c), fun _ _ => rfl⟩
set_option maxRecDepth 20000 in
theorem wrote_cons {rd rd' : Nat → Int32} {j : Nat} {v : Int} {vs : List Int} (h : wrote (upd rd j (iI v)) rd' (j + 1) vs) : wrote rd rd' j (v :: vs) := by
  refine ⟨fun c hc => ?_, fun y hy => ?_⟩
  · cases c with
    | zero =>
      rw [Nat.add_zero, h.2 j (Or.inl (by omega))]
      unfold upd; rw [if_pos rfl]; rfl
    | succ c =>
      have := h.1 c (by simpa using hc)
      rw [show j + (c + 1) = j + 1 + c by omega, this]; rfl
  · rw [List.length_cons] at hy
    rw [h.2 y (by omega)]
    unfold upd; rw [if_neg (by omega)]
set_option maxRecDepth 20000 in
theorem rdN_cong {T : Tp} {ok ok' : Int → Bool} {a : Nat} (h : ∀ v, 0 ≤ v → ok v = ok' v) : rdN T ok a = rdN T ok' a := by
  unfold rdN
  rw [h _ (nv_rng (T := T) (s := sk T a)).1]
set_option maxRecDepth 20000 in
theorem rdNum_eq {T : Tp} {P g a : Nat} {b : Int} {ok : Int → Bool} (hg : g ≠ 117) (h : ∀ v, 0 ≤ v → ok v = ft P g b v) : rdN T ok a = rdNum T P g b a := by
  unfold rdNum
  rw [if_neg (fun q => hg q.1)]
  exact rdN_cong h
set_option maxRecDepth 20000 in
theorem rdNums_1 {T : Tp} {P g a : Nat} {b : Int} {gs : List Nat} {F : Nat} (h : rdNum T P g b a = .inl F) : rdNums T P (g :: gs) b a = .inl F := by rw [rdNums, h]
set_option maxRecDepth 20000 in
theorem rdNums_2 {T : Tp} {P g a e : Nat} {b v : Int} {gs : List Nat} {F : Nat} (h : rdNum T P g b a = .inr (v, e)) (h2 : rdNums T P gs v e = .inl F) : rdNums T P (g :: gs) b a = .inl F := by rw [rdNums, h]; simp only []; rw [h2]
set_option maxRecDepth 20000 in
theorem rdNums_3 {T : Tp} {P g a e e' : Nat} {b v : Int} {gs : List Nat} {vs : List Int} (h : rdNum T P g b a = .inr (v, e)) (h2 : rdNums T P gs v e = .inr (vs, e')) : rdNums T P (g :: gs) b a = .inr (v :: vs, e') := by rw [rdNums, h]; simp only []; rw [h2]
set_option maxRecDepth 20000 in
theorem rdNums_0 (T : Tp) (P : Nat) (b : Int) (a : Nat) : rdNums T P [] b a = .inr ([], a) := rfl
set_option maxRecDepth 20000 in
theorem rdNum_le {T : Tp} {P g a e : Nat} {b v : Int} (ha : a ≤ T.1) (h : rdNum T P g b a = .inr (v, e)) : e ≤ T.1 := (rdNum_inr ha h).2.2
set_option maxRecDepth 20000 in
theorem rdNum_rng {T : Tp} {P g a e : Nat} {b v : Int} (ha : a ≤ T.1) (hg : g ≠ 117) (h : rdNum T P g b a = .inr (v, e)) : 0 ≤ v ∧ v ≤ 100000 ∧ ft P g b v = true := by
  unfold rdNum at h
  rw [if_neg (fun q => hg q.1)] at h
  obtain ⟨h1, h2, h3, -⟩ := rdN_inr h
  have := nv_rng (T := T) (s := sk T a)
  exact ⟨by omega, by omega, h3⟩
def sp_mrdays : Sp := (4, 0, 0, pMd, fun as σ K => ∃ (now was kept isk ln sp ls ld tb rd : Nat → Int32) (und gon lef ak vn dy asd lma lim rea sts apr tz spo wro num nuA stl spe wan fou : Int32) (T : Tp) (a j P : Nat) (b : Int) (xa : Int32), as = [.ref 0, .int xa] ∧ xa = iI (j : Int) ∧ σ = (wMd now was kept isk ln sp ls ld tb rd und gon lef ak vn dy asd lma lim rea sts apr (iI (T.1 : Int)) (iI ((a : Nat) : Int)) wro num nuA stl spe wan fou) ∧ TB T tb ∧ a ≤ T.1 ∧ j + 1 < 657 ∧
  (∀ vs e, rdNums T P [102, 100] b a = .inr (vs, e) → ∀ rd' num nuA, wrote rd rd' j vs → K (some (.int (iI 1))) (some (wMd now was kept isk ln sp ls ld tb rd' und gon lef ak vn dy asd lma lim rea sts apr (iI (T.1 : Int)) (iI ((e : Nat) : Int)) wro num nuA stl spe wan fou))) ∧ (∀ F : Nat, rdNums T P [102, 100] b a = .inl F → ∀ rd spo num nuA, K (some (.int (iI 0))) (some (wMd now was kept isk ln sp ls ld tb rd und gon lef ak vn dy asd lma lim rea sts apr (iI (T.1 : Int)) spo (iI (F : Int)) num nuA stl spe wan fou))))
set_option maxRecDepth 20000 in
theorem v_mrdays (l : Launch) : z_V l 242 sp_mrdays := by
  refine z_V.ofP (by decide +kernel) ?_
  rintro as σ K Post ⟨now, was, kept, isk, ln, sp, ls, ld, tb, rd, und, gon, lef, ak, vn, dy, asd, lma, lim, rea, sts, apr, tz, spo, wro, num, nuA, stl, spe, wan, fou, T, a, j, P, b, xa, rfl, rfl, rfl, hT, ha, hj, hS, hF⟩ hP1 hP0
  have e1 : rdN T (fun v => decide (0 ≤ v ∧ v ≤ 999)) a = rdNum T P 102 b a := rdNum_eq (by decide) (fun v hv => by
    show decide (0 ≤ v ∧ v ≤ 999) = decide (v < 1000)
    exact decide_eq_decide.mpr (by omega))
  refine AW.go (bs := b_Mod_readsDays) [] 60 t_Mod_readsDays ?_
  refine ⟨_, v_mrto l, by decide, _, _, _, _, _, _, _, _, _, _, _, _, _, _, _, _, _, _, _, _, _, _, 0, 0, _, _, _, _, _, _, _, T, a, j, 0, 999, _, _, _, rfl, rfl, rfl, rfl, rfl, hT, ha, by omega, ⟨by omega, by omega⟩, ⟨by omega, by omega⟩, fun v e q num => ?_, fun F q spo num nuA => ?_⟩
  · rw [e1] at q
    have he := rdNum_le ha q
    have hv := rdNum_rng ha (by decide) q
    have e2 : rdN T (fun w => decide (v ≤ w ∧ w ≤ 999)) e = rdNum T P 100 v e := rdNum_eq (by decide) (fun w hw => by
      show decide (v ≤ w ∧ w ≤ 999) = decide (w < 1000 ∧ v ≤ w)
      exact decide_eq_decide.mpr (by omega))
    have ej : iI (j : Int) + z_nn 1 0 = iI ((j + 1 : Nat) : Int) := zn_inc j
    refine And.intro (fun w => absurd w (by first | decide | (rw [zd_iff]; decide))) (fun _ => ?_)
    refine And.intro (zN_in (by omega) (by omega)) ?_
    have ev : upd rd j (iI v) (iI (j : Int)).toNatClampNeg = iI v := by rw [zN_cl (by omega)]; unfold upd; rw [if_pos rfl]
    refine ⟨_, v_mrto l, by decide, _, _, _, _, _, _, _, _, _, _, _, _, _, _, _, _, _, _, _, _, _, _, 0, 0, _, _, _, _, _, _, _, T, e, j + 1, v, 999, _, _, _, rfl, ej, ev, rfl, rfl, hT, he, by omega, ⟨by omega, by omega⟩, ⟨by omega, by omega⟩, fun w e' q2 num => ?_, fun F q2 spo num nuA => ?_⟩
    · rw [e2] at q2
      refine And.intro (fun w => absurd w (by first | decide | (rw [zd_iff]; decide))) (fun _ => ?_)
      exact And.intro (Or.inr rfl) (hP1 _ _ (hS _ _ (rdNums_3 q (rdNums_3 q2 rfl)) _ _ _ (wrote_cons (wrote_cons (wrote_nil _ _)))))
    · rw [e2] at q2
      refine And.intro (fun _ => ?_) (fun w => absurd rfl w)
      exact And.intro (Or.inl rfl) (hP1 _ _ (hF _ (rdNums_2 q (rdNums_1 q2)) _ _ _ _))
  · rw [e1] at q
    refine And.intro (fun _ => ?_) (fun w => absurd rfl w)
    exact And.intro (Or.inl rfl) (hP1 _ _ (hF _ (rdNums_1 q) _ _ _ _))
def sp_mrhold : Sp := (5, 0, 0, pMd, fun as σ K => ∃ (now was kept isk ln sp ls ld tb rd : Nat → Int32) (und gon lef ak vn dy asd lma lim rea sts apr tz spo wro num nuA stl spe wan fou : Int32) (T : Tp) (a j P : Nat) (b : Int) (xa : Int32), as = [.ref 0, .int xa] ∧ xa = iI (j : Int) ∧ σ = (wMd now was kept isk ln sp ls ld tb rd und gon lef ak vn dy asd lma lim rea sts apr (iI (T.1 : Int)) (iI ((a : Nat) : Int)) wro num nuA stl spe wan fou) ∧ TB T tb ∧ a ≤ T.1 ∧ 9 ≤ j ∧ j + 3 < 657 ∧ rd 0 = iI (P : Int) ∧ P ≤ 12 ∧
  (∀ vs e, rdNums T P [112, 110, 102, 100] b a = .inr (vs, e) → ∀ rd' num nuA, wrote rd rd' j vs → K (some (.int (iI 1))) (some (wMd now was kept isk ln sp ls ld tb rd' und gon lef ak vn dy asd lma lim rea sts apr (iI (T.1 : Int)) (iI ((e : Nat) : Int)) wro num nuA stl spe wan fou))) ∧ (∀ F : Nat, rdNums T P [112, 110, 102, 100] b a = .inl F → ∀ rd spo num nuA, K (some (.int (iI 0))) (some (wMd now was kept isk ln sp ls ld tb rd und gon lef ak vn dy asd lma lim rea sts apr (iI (T.1 : Int)) spo (iI (F : Int)) num nuA stl spe wan fou))))
set_option maxRecDepth 20000 in
theorem v_mrhold (l : Launch) : z_V l 244 sp_mrhold := by
  refine z_V.ofP (by decide +kernel) ?_
  rintro as σ K Post ⟨now, was, kept, isk, ln, sp, ls, ld, tb, rd, und, gon, lef, ak, vn, dy, asd, lma, lim, rea, sts, apr, tz, spo, wro, num, nuA, stl, spe, wan, fou, T, a, j, P, b, xa, rfl, rfl, rfl, hT, ha, hj9, hj, hrd, hP, hS, hF⟩ hP1 hP0
  have e1 : rdN T (fun v => decide (0 ≤ v ∧ v ≤ (P : Int) - 1)) a = rdNum T P 112 b a := rdNum_eq (by decide) (fun v hv => by
    show decide (0 ≤ v ∧ v ≤ (P : Int) - 1) = decide (v < (P : Nat))
    exact decide_eq_decide.mpr (by omega))
  have eP : rd (z_nn 0 0).toNatClampNeg - z_nn 1 0 = iI ((P : Int) - 1) := by rw [zn_cl (by omega), hrd, zn_i, iI_sub]; rfl
  refine AW.go (bs := b_Mod_readsHold) [] 60 t_Mod_readsHold ?_
  refine And.intro (by first | decide | exact zn_in (by decide) (by omega)) ?_
  refine ⟨_, v_mrto l, by decide, _, _, _, _, _, _, _, _, _, _, _, _, _, _, _, _, _, _, _, _, _, _, 0, 0, _, _, _, _, _, _, _, T, a, j, 0, (P : Int) - 1, _, _, _, rfl, rfl, rfl, eP, rfl, hT, ha, by omega, ⟨by omega, by omega⟩, ⟨by omega, by omega⟩, fun v e q num => ?_, fun F q spo num nuA => ?_⟩
  · rw [e1] at q
    have he := rdNum_le ha q
    have hv := rdNum_rng ha (by decide) q
    have e2 : rdN T (fun w => decide (0 ≤ w ∧ w ≤ 15)) e = rdNum T P 110 v e := rdNum_eq (by decide) (fun w hw => by
      show decide (0 ≤ w ∧ w ≤ 15) = decide (w < 16)
      exact decide_eq_decide.mpr (by omega))
    refine And.intro (fun w => absurd w (by first | decide | (rw [zd_iff]; decide))) (fun _ => ?_)
    refine ⟨_, v_mrto l, by decide, _, _, _, _, _, _, _, _, _, _, _, _, _, _, _, _, _, _, _, _, _, _, 0, 0, _, _, _, _, _, _, _, T, e, j + 1, 0, 15, _, _, _, rfl, zn_inc j, rfl, rfl, rfl, hT, he, by omega, ⟨by omega, by omega⟩, ⟨by omega, by omega⟩, fun w e' q2 num => ?_, fun F q2 spo num nuA => ?_⟩
    · rw [e2] at q2
      have he2 := rdNum_le he q2
      refine And.intro (fun w => absurd w (by first | decide | (rw [zd_iff]; decide))) (fun _ => ?_)
      refine ⟨_, v_mrdays l, by decide, _, _, _, _, _, _, _, _, _, _, _, _, _, _, _, _, _, _, _, _, _, _, 0, 0, _, _, _, _, _, _, _, T, e', j + 2, P, w, _, rfl, by rw [zn_i, iI_add]; rfl, rfl, hT, he2, by omega, fun vs e3 q3 rd' num nuA hw => ?_, fun F q3 rd' spo num nuA => ?_⟩
      · refine And.intro (fun w => absurd w (by first | decide | (rw [zd_iff]; decide))) (fun _ => ?_)
        exact And.intro (Or.inr rfl) (hP1 _ _ (hS _ _ (rdNums_3 q (rdNums_3 q2 q3)) _ _ _ (wrote_cons (wrote_cons hw))))
      · refine And.intro (fun _ => ?_) (fun w => absurd rfl w)
        exact And.intro (Or.inl rfl) (hP1 _ _ (hF _ (rdNums_2 q (rdNums_2 q2 q3)) _ _ _ _))
    · rw [e2] at q2
      refine And.intro (fun _ => ?_) (fun w => absurd rfl w)
      exact And.intro (Or.inl rfl) (hP1 _ _ (hF _ (rdNums_2 q (rdNums_1 q2)) _ _ _ _))
  · rw [e1] at q
    refine And.intro (fun _ => ?_) (fun w => absurd rfl w)
    exact And.intro (Or.inl rfl) (hP1 _ _ (hF _ (rdNums_1 q) _ _ _ _))
def sp_mrstand : Sp := (5, 0, 0, pMd, fun as σ K => ∃ (now was kept isk ln sp ls ld tb rd : Nat → Int32) (und gon lef ak vn dy asd lma lim rea sts apr tz spo wro num nuA stl spe wan fou : Int32) (T : Tp) (a j P : Nat) (b : Int) (xa : Int32), as = [.ref 0, .int xa] ∧ xa = iI (j : Int) ∧ σ = (wMd now was kept isk ln sp ls ld tb rd und gon lef ak vn dy asd lma lim rea sts apr (iI (T.1 : Int)) (iI ((a : Nat) : Int)) wro num nuA stl spe wan fou) ∧ TB T tb ∧ a ≤ T.1 ∧ j + 4 < 657 ∧
  (∀ vs e, rdNums T P [110, 116, 102, 100, 108] b a = .inr (vs, e) → ∀ rd' num nuA, wrote rd rd' j vs → K (some (.int (iI 1))) (some (wMd now was kept isk ln sp ls ld tb rd' und gon lef ak vn dy asd lma lim rea sts apr (iI (T.1 : Int)) (iI ((e : Nat) : Int)) wro num nuA stl spe wan fou))) ∧ (∀ F : Nat, rdNums T P [110, 116, 102, 100, 108] b a = .inl F → ∀ rd spo num nuA, K (some (.int (iI 0))) (some (wMd now was kept isk ln sp ls ld tb rd und gon lef ak vn dy asd lma lim rea sts apr (iI (T.1 : Int)) spo (iI (F : Int)) num nuA stl spe wan fou))))
set_option maxRecDepth 20000 in
theorem rdNums_app {T : Tp} {P : Nat} : ∀ {gs hs : List Nat} {b : Int} {a e : Nat} {vs : List Int}, rdNums T P gs b a = .inr (vs, e) → (∀ {F : Nat}, rdNums T P hs (vs.getLastD b) e = .inl F → rdNums T P (gs ++ hs) b a = .inl F) ∧ ∀ {ws e'}, rdNums T P hs (vs.getLastD b) e = .inr (ws, e') → rdNums T P (gs ++ hs) b a = .inr (vs ++ ws, e')
  | [], hs, b, a, e, vs, h => by
    rw [rdNums] at h
    injection h with h
    injection h with h1 h2
    subst h1; subst h2
    exact ⟨fun q => q, fun q => q⟩
  | g :: gs, hs, b, a, e, vs, h => by
    rw [rdNums] at h
    split at h
    · cases h
    · next v e1 h1 =>
      split at h
      · cases h
      · next ws e2 h2 =>
        injection h with h
        injection h with h3 h4
        subst h3; subst h4
        have ih := rdNums_app (hs := hs) h2
        have el : (v :: ws).getLastD b = ws.getLastD v := by cases ws <;> rfl
        rw [el]
        exact ⟨fun q => rdNums_2 h1 (ih.1 q), fun q => rdNums_3 h1 (ih.2 q)⟩
set_option maxRecDepth 20000 in
theorem rdNums_pre {T : Tp} {P : Nat} : ∀ {gs hs : List Nat} {b : Int} {a F : Nat}, rdNums T P gs b a = .inl F → rdNums T P (gs ++ hs) b a = .inl F
  | [], hs, b, a, F, h => by rw [rdNums] at h; cases h
  | g :: gs, hs, b, a, F, h => by
    rw [rdNums] at h
    split at h
    · next f h1 => injection h with h; subst h; exact rdNums_1 h1
    · next v e h1 =>
      split at h
      · next f h2 => injection h with h; subst h; exact rdNums_2 h1 (rdNums_pre h2)
      · cases h
