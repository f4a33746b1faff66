/-! the model reads posts, settings -/
set_option maxRecDepth 20000 in
theorem rdN_sk {T : Tp} (h4 : T.1 ≤ 400) {a : Nat} (ha : a ≤ T.1) (ok : Int → Bool) : rdN T ok (sk T a) = rdN T ok a := by
  unfold rdN
  rw [sk_sk h4 ha]
set_option maxRecDepth 20000 in
theorem rdNum_sk {T : Tp} (h4 : T.1 ≤ 400) {a : Nat} (ha : a ≤ T.1) (P g : Nat) (b : Int) : rdNum T P g b (sk T a) = rdNum T P g b a := by
  unfold rdNum
  rw [sk_sk h4 ha, rdN_sk h4 ha]
set_option maxRecDepth 20000 in
theorem sl_4 : sln (wrd 4) = 4 := by decide
def rep108 : Nat → List Nat
  | 0 => []
  | n + 1 => 108 :: rep108 n
def sp_mrpost : Sp := (6, 0, 0, pMd, fun as σ K => ∃ (now was kept isk ln sp ls ld tb rd : Nat → Int32) (und gon lef ak vn dy asd lma lim rea sts apr tz spo wro num nuA stl spe wan fou : Int32) (T : Tp) (a : Nat) (D : Od), as = [.ref 0] ∧ σ = (wMd now was kept isk ln sp ls ld tb rd und gon lef ak vn dy asd lma lim rea sts apr (iI (T.1 : Int)) (iI ((a : Nat) : Int)) wro num nuA stl spe wan fou) ∧ TB T tb ∧ a + 4 ≤ T.1 ∧ RM rd D ∧ OKM D ∧
  (12 ≤ D.1 4 → K (some (.int (iI 0))) (some (wMd now was kept isk ln sp ls ld tb rd und gon lef ak vn dy asd lma lim rea sts apr (iI (T.1 : Int)) (iI ((a : Nat) : Int)) (iI ((8 * a + 3 : Nat) : Int)) num nuA stl spe wan fou))) ∧
  (D.1 4 < 12 → ∀ vs e, rdNums T (D.1 4) [117, 108, 108, 108] (-1) (a + 4) = .inr (vs, e) → ∀ rd num nuA, RM rd (oAdd D 4 (fun i => vs.getD i 0)) → K (some (.int (iI 1))) (some (wMd now was kept isk ln sp ls ld tb rd und gon lef ak vn dy asd lma lim rea sts apr (iI (T.1 : Int)) (iI ((e : Nat) : Int)) wro num nuA stl spe wan fou))) ∧ (D.1 4 < 12 → ∀ F : Nat, rdNums T (D.1 4) [117, 108, 108, 108] (-1) (a + 4) = .inl F → ∀ rd spo num nuA, K (some (.int (iI 0))) (some (wMd now was kept isk ln sp ls ld tb rd und gon lef ak vn dy asd lma lim rea sts apr (iI (T.1 : Int)) spo (iI (F : Int)) num nuA stl spe wan fou))))
set_option maxRecDepth 20000 in
theorem RM_post {rd rd1 rd2 : Nat → Int32} {D : Od} {v : Int} {ls : List Int} (h : RM rd D) (hn : D.1 4 < 12) (h1 : rd1 (9 + 4 * D.1 4) = iI (mVal 4 0 v)) (h2 : ∀ y, y ≠ 9 + 4 * D.1 4 → rd1 y = rd y) (hw : wrote rd1 rd2 (9 + 4 * D.1 4 + 1) ls) (hl : ls.length = 3) : RM (upd rd2 0 (iI ((D.1 4 + 1 : Nat) : Int))) (oAdd D 4 (fun i => (v :: ls).getD i 0)) := by
  have hm : ∀ c, mi 4 (D.1 4) c = 9 + 4 * D.1 4 + c := fun c => rfl
  refine h.add (by omega) (by rw [x_4]; exact hn) (fun c hc => ?_) ?_ (fun y g1 g2 => ?_)
  · rw [w_4] at hc
    unfold upd
    rw [hm, if_neg (by omega)]
    cases c with
    | zero => rw [hw.2 _ (Or.inl (by omega)), Nat.add_zero, h1]; rfl
    | succ c =>
      have := hw.1 c (by omega)
      rw [show 9 + 4 * D.1 4 + (c + 1) = 9 + 4 * D.1 4 + 1 + c by omega, this, mVal, if_neg (fun q => by omega)]
      rfl
  · show upd rd2 0 _ 0 = _
    unfold upd; rw [if_pos rfl]
  · have g1 : y ≠ 0 := g1
    unfold upd
    rw [if_neg g1]
    rw [w_4] at g2
    have g3 := g2 0 (by omega)
    rw [hm] at g3
    have g4 : y ≠ 9 + 4 * D.1 4 := by omega
    by_cases q : y < 9 + 4 * D.1 4 + 1
    · rw [hw.2 y (Or.inl q), h2 y g4]
    · by_cases q2 : 9 + 4 * D.1 4 + 1 + ls.length ≤ y
      · rw [hw.2 y (Or.inr q2), h2 y g4]
      · exact absurd (by rw [hm]; omega) (g2 (y - (9 + 4 * D.1 4)) (by omega))
set_option maxRecDepth 20000 in
theorem v_mrpost (l : Launch) : z_V l 243 sp_mrpost := by
  refine z_V.ofP (by decide +kernel) ?_
  rintro as σ K Post ⟨now, was, kept, isk, ln, sp, ls, ld, tb, rd, und, gon, lef, ak, vn, dy, asd, lma, lim, rea, sts, apr, tz, spo, wro, num, nuA, stl, spe, wan, fou, T, a, D, rfl, rfl, hT, ha, hN, hO, hX, hS, hF⟩ hP1 hP0
  have h4 := hT.1
  have hsz : rd 0 = iI ((D.1 4 : Nat) : Int) := hN.size 4 (by omega)
  have hx4 := hO.2.2.2.2.2.2.2.2.2 4 (by omega)
  rw [x_4] at hx4
  have eat : z_nn 9 0 + z_nn 4 0 * iI ((D.1 4 : Nat) : Int) = iI ((9 + 4 * D.1 4 : Nat) : Int) := by rw [zn_i, zn_i, iI_mul, iI_add]; rfl
  -- the limits, one by one
  have loop : ∀ (n k a' : Nat) (b : Int) (rd1 rd' : Nat → Int32) (lz : List Int) (x3 num nuA : Int32), D.1 4 < 12 → k + n = 3 → a' ≤ T.1 → lz.length = k → wrote rd1 rd' (9 + 4 * D.1 4 + 1) lz → x3 = iI (k : Int) →
      (∀ ws e, rdNums T (D.1 4) (rep108 n) b a' = .inr (ws, e) → ∀ rd' x3 num nuA, wrote rd1 rd' (9 + 4 * D.1 4 + 1) (lz ++ ws) → (lz ++ ws).length = 3 → AW l 243 6 0 0 11 none Post 112 [some (.ref 0), some (.int (iI ((D.1 4 : Nat) : Int))), some (.int (iI ((9 + 4 * D.1 4 : Nat) : Int))), some (.int x3)] [] (wMd now was kept isk ln sp ls ld tb rd' und gon lef ak vn dy asd lma lim rea sts apr (iI (T.1 : Int)) (iI ((e : Nat) : Int)) wro num nuA stl spe wan fou) 0 0) →
      (∀ F : Nat, rdNums T (D.1 4) (rep108 n) b a' = .inl F → ∀ rd spo num nuA, Post (some (.int (iI 0))) (wMd now was kept isk ln sp ls ld tb rd und gon lef ak vn dy asd lma lim rea sts apr (iI (T.1 : Int)) spo (iI (F : Int)) num nuA stl spe wan fou)) →
      AW l 243 6 0 0 11 none Post 83 [some (.ref 0), some (.int (iI ((D.1 4 : Nat) : Int))), some (.int (iI ((9 + 4 * D.1 4 : Nat) : Int))), some (.int x3)] [] (wMd now was kept isk ln sp ls ld tb rd' und gon lef ak vn dy asd lma lim rea sts apr (iI (T.1 : Int)) (iI ((a' : Nat) : Int)) wro num nuA stl spe wan fou) 0 0 := by
    intro n
    induction n with
    | zero =>
      intro k a' b rd1 rd' lz x3 num nuA hn hk ha' hl hw hx hS2 hF2
      subst hx
      refine AW.go (bs := b_Mod_readsPost) [112] 60 t_Mod_readsPost ?_
      refine And.intro (fun _ => ?_) (fun q => ?_)
      · exact hS2 [] a' rfl rd' _ num nuA (by rw [List.append_nil]; exact hw) (by rw [List.append_nil]; omega)
      · exfalso; rw [zn_i, zc_ge (by omega) (by omega) (by omega) (by omega)] at q; omega
    | succ n ih =>
      intro k a' b rd1 rd' lz x3 num nuA hn hk ha' hl hw hx hS2 hF2
      subst hx
      have ej : iI ((9 + 4 * D.1 4 : Nat) : Int) + z_nn 1 0 + iI (k : Int) = iI ((9 + 4 * D.1 4 + 1 + k : Nat) : Int) := by rw [zn_inc, iI_add]; rfl
      have e4 : rdN T (fun w => decide (0 ≤ w ∧ w ≤ 9999)) a' = rdNum T (D.1 4) 108 b a' := rdNum_eq (by decide) (fun w hw => by
        show decide (0 ≤ w ∧ w ≤ 9999) = decide (w ≤ 9999)
        exact decide_eq_decide.mpr (by omega))
      refine AW.go (bs := b_Mod_readsPost) [83] 60 t_Mod_readsPost ?_
      refine And.intro (fun q => ?_) (fun _ => ?_)
      · exfalso; rw [zn_i, zc_ge (by omega) (by omega) (by omega) (by omega)] at q; omega
      refine ⟨_, v_mrto l, by decide, _, _, _, _, _, _, _, _, _, _, _, _, _, _, _, _, _, _, _, _, _, _, 0, 0, _, _, _, _, _, _, _, T, a', 9 + 4 * D.1 4 + 1 + k, 0, 9999, _, _, _, rfl, ej, rfl, rfl, rfl, hT, ha', by omega, ⟨by omega, by omega⟩, ⟨by omega, by omega⟩, fun v e q num => ?_, fun F q spo num nuA => ?_⟩
      · rw [e4] at q
        have he := rdNum_le ha' q
        refine And.intro (fun _ => ?_) (fun w => absurd (show z_cond .ne (iI 1) 0 by first | decide | (rw [zd_iff]; decide)) w)
        refine ih (k + 1) e v rd1 _ (lz ++ [v]) _ _ _ hn (by omega) he (by rw [List.length_append, hl]; rfl) (wrote_snoc hw v (by omega)) (zn_inc k) (fun ws e' q2 rd2 x3 num nuA hw2 hl2 => ?_) (fun F q2 rd2 spo num nuA => ?_)
        · have e5 : lz ++ [v] ++ ws = lz ++ (v :: ws) := by rw [List.append_assoc]; rfl
          rw [e5] at hw2 hl2
          exact hS2 (v :: ws) e' (rdNums_3 q q2) rd2 x3 num nuA hw2 hl2
        · exact hF2 F (rdNums_2 q q2) rd2 spo num nuA
      · rw [e4] at q
        refine And.intro (fun w => absurd w (by first | decide | (rw [zd_iff]; decide))) (fun _ => ?_)
        exact And.intro (Or.inl rfl) (hF2 F (rdNums_1 q) _ _ _ _)
  -- behind the post above
  have rest : ∀ (v : Int) (a1 : Nat) (rd1 : Nat → Int32) (num nuA : Int32), D.1 4 < 12 → a1 ≤ T.1 → rdNum T (D.1 4) 117 (-1) (a + 4) = .inr (v, a1) → rd1 (9 + 4 * D.1 4) = iI (mVal 4 0 v) → (∀ y, y ≠ 9 + 4 * D.1 4 → rd1 y = rd y) →
      AW l 243 6 0 0 11 none Post 81 [some (.ref 0), some (.int (iI ((D.1 4 : Nat) : Int))), some (.int (iI ((9 + 4 * D.1 4 : Nat) : Int))), none] [] (wMd now was kept isk ln sp ls ld tb rd1 und gon lef ak vn dy asd lma lim rea sts apr (iI (T.1 : Int)) (iI ((a1 : Nat) : Int)) wro num nuA stl spe wan fou) 0 0 := by
    intro v a1 rd1 num nuA hn ha1 hv h1 h2
    refine AW.go (bs := b_Mod_readsPost) [83] 60 t_Mod_readsPost ?_
    refine loop 3 0 a1 v rd1 rd1 [] _ _ _ hn rfl ha1 rfl (wrote_nil _ _) rfl (fun ws e q rd2 x3 num nuA hw hl => ?_) (fun F q rd2 spo num nuA => ?_)
    · have hR := RM_post hN hn h1 h2 hw hl
      have hold : rd2 0 = iI ((D.1 4 : Nat) : Int) := by rw [hw.2 0 (Or.inl (by omega)), h2 0 (by omega), hsz]
      refine AW.go (bs := b_Mod_readsPost) [] 60 t_Mod_readsPost ?_
      refine And.intro (by first | decide | exact zn_in (by decide) (by omega)) ?_
      refine And.intro (by first | decide | exact zn_in (by decide) (by omega)) ?_
      show _ ∧ Post _ _
      rw [zn_cl (by omega), hold, zn_inc]
      exact And.intro (Or.inr rfl) (hP1 _ _ (hS hn _ e (rdNums_3 hv q) _ _ _ hR))
    · exact hP1 _ _ (hF hn F (rdNums_2 hv q) _ _ _ _)
  have hs4 := sk_rng ha
  have body : D.1 4 < 12 → AW l 243 6 0 0 11 none Post 30 [some (.ref 0), some (.int (iI ((D.1 4 : Nat) : Int))), none, none] [] (wMd now was kept isk ln sp ls ld tb rd und gon lef ak vn dy asd lma lim rea sts apr (iI (T.1 : Int)) (iI ((a + 4 : Nat) : Int)) wro num nuA stl spe wan fou) 0 0 := by
    intro hn
    refine AW.go (bs := b_Mod_readsPost) [81] 60 t_Mod_readsPost ?_
    show _ ∧ _
    rw [eat]
    refine And.intro (zN_in (by omega) (by omega)) ?_
    show ∃ sp : Sp, _
    rw [zN_cl (by omega)]
    refine ⟨_, v_misWord l, by decide, _, _, _, _, _, _, _, _, _, _, _, _, _, _, _, _, _, _, _, _, _, _, 0, 0, _, _, _, _, _, _, _, T, a + 4, 14, rfl, rfl, hT, ha, by decide, by unfold isSm; decide, ?_⟩
    refine And.intro (fun h => ?_) (fun h => ?_)
    · rw [zc_beq] at h
      have e1 : rdN T (fun v => decide (0 ≤ v ∧ v ≤ (D.1 4 : Int) - 1)) (sk T (a + 4)) = rdNum T (D.1 4) 117 (-1) (a + 4) := by
        rw [rdN_sk h4 ha]
        unfold rdNum
        rw [if_neg (fun q => by rw [h] at q; exact Bool.noConfusion q.2)]
        refine rdN_cong (fun v hv => ?_)
        show decide (0 ≤ v ∧ v ≤ (D.1 4 : Int) - 1) = decide (v < (D.1 4 : Nat))
        exact decide_eq_decide.mpr (by omega)
      have eh : iI ((D.1 4 : Nat) : Int) - z_nn 1 0 = iI ((D.1 4 : Int) - 1) := by rw [zn_i, iI_sub]; rfl
      refine ⟨_, v_mrto l, by decide, _, _, _, _, _, _, _, _, _, _, _, _, _, _, _, _, _, _, _, _, _, _, 0, 0, _, _, _, _, _, _, _, T, sk T (a + 4), 9 + 4 * D.1 4, 0, (D.1 4 : Int) - 1, _, _, _, rfl, rfl, rfl, eh, rfl, hT, hs4.2, by omega, ⟨by omega, by omega⟩, ⟨by omega, by omega⟩, fun v e q num => ?_, fun F q spo num nuA => ?_⟩
      · have hv0 := (rdN_inr q).1
        have hv1 := nv_rng (T := T) (s := sk T (sk T (a + 4)))
        rw [e1] at q
        have he := rdNum_le ha q
        refine And.intro (fun _ => ?_) (fun w => absurd (show z_cond .ne (iI 1) 0 by first | decide | (rw [zd_iff]; decide)) w)
        refine rest v e _ _ _ hn he q ?_ (fun y hy => ?_)
        · unfold upd
          rw [if_pos rfl, mVal, if_neg (fun w => by omega)]
        · unfold upd
          rw [if_neg hy, if_neg hy]
      · rw [e1] at q
        refine And.intro (fun w => absurd w (by first | decide | (rw [zd_iff]; decide))) (fun _ => ?_)
        exact And.intro (Or.inl rfl) (hP1 _ _ (hF hn F (rdNums_1 q) _ _ _ _))
    · rw [zc_beq, Bool.not_eq_false] at h
      have hv : rdNum T (D.1 4) 117 (-1) (a + 4) = .inr (-2, sk T (a + 4) + 3) := by
        unfold rdNum
        rw [if_pos ⟨rfl, h⟩]
      have he := rdNum_le ha hv
      have r := rest (-2) (sk T (a + 4) + 3) (upd rd (9 + 4 * D.1 4) (iI (-1))) num nuA hn he hv (by unfold upd; rw [if_pos rfl]; rfl) (fun y hy => by unfold upd; rw [if_neg hy])
      have e3 : iI ((sk T (a + 4) : Nat) : Int) + z_nn 3 0 = iI ((sk T (a + 4) + 3 : Nat) : Int) := by rw [zn_i, iI_add]; rfl
      rw [← e3] at r
      exact r
  have go : ∀ b : Bool, b = decide (D.1 4 < 12) → AW l 243 6 0 0 11 none Post 22 [some (.ref 0), some (.int (iI ((D.1 4 : Nat) : Int))), none, none] [.int (bI b), .ref (12 + 2000), .ref 0] (wMd now was kept isk ln sp ls ld tb rd und gon lef ak vn dy asd lma lim rea sts apr (iI (T.1 : Int)) (iI ((a : Nat) : Int)) wro num nuA stl spe wan fou) 0 0 := by
    intro b hb
    refine AW.go (bs := b_Mod_readsPost) [30] 60 t_Mod_readsPost ?_
    refine ⟨_, v_mtakes l, by decide, _, _, _, _, _, _, _, _, _, _, _, _, _, _, _, _, _, _, _, _, _, _, _, 0, _, _, _, _, _, _, _, a, 12, b, rfl, rfl, by decide, fun q => ?_, fun q => ?_⟩
    · refine And.intro (fun w => absurd w (by first | decide | (rw [zd_iff]; decide))) (fun _ => ?_)
      rw [q] at hb
      exact And.intro (Or.inl rfl) (hP1 _ _ (hX (by have := of_decide_eq_false hb.symm; omega)))
    · refine And.intro (fun _ => ?_) (fun w => absurd (show z_cond .ne (iI 1) 0 by first | decide | (rw [zd_iff]; decide)) w)
      rw [q] at hb
      exact body (of_decide_eq_true hb.symm)
  refine AW.go (bs := b_Mod_readsPost) [22] 60 t_Mod_readsPost ?_
  refine And.intro (by first | decide | exact zn_in (by decide) (by omega)) ?_
  show _ ∧ _
  rw [zn_cl (by omega), hsz]
  refine And.intro (fun h => ?_) (fun h => ?_)
  · rw [zn_i, zc_ge (by omega) (by omega) (by omega) (by omega)] at h
    exact go false (decide_eq_false (by omega)).symm
  · rw [zn_i, zc_ge (by omega) (by omega) (by omega) (by omega)] at h
    exact go true (decide_eq_true (by omega)).symm
set_option maxRecDepth 20000 in
theorem sgn_set (d : Nat) (hd : d < 3) : strL (sgn (6 + d)) = [[119, 99, 105].getD d 0] ∧ ∀ (P : Nat) (b v : Int), 0 ≤ v → decide (0 ≤ v ∧ v ≤ hiS (d : Int)) = ft P ([119, 99, 105].getD d 0) b v := by
  have : d = 0 ∨ d = 1 ∨ d = 2 := by omega
  rcases this with rfl | rfl | rfl
  · refine ⟨by decide, fun P b v hv => ?_⟩
    show decide (0 ≤ v ∧ v ≤ 99) = decide (v ≤ 99)
    exact decide_eq_decide.mpr (by omega)
  · refine ⟨by decide, fun P b v hv => ?_⟩
    show decide (0 ≤ v ∧ v ≤ 9) = decide (v ≤ 9)
    exact decide_eq_decide.mpr (by omega)
  · refine ⟨by decide, fun P b v hv => ?_⟩
    show decide (0 ≤ v ∧ v ≤ 30) = decide (v ≤ 30)
    exact decide_eq_decide.mpr (by omega)
def sp_mrset : Sp := (5, 0, 0, pMd, fun as σ K => ∃ (now was kept isk ln sp ls ld tb rd : Nat → Int32) (und gon lef ak vn dy asd lma lim rea sts apr tz spo wro num nuA stl spe wan fou : Int32) (T : Tp) (a : Nat) (D : Od) (d told : Nat), as = [.ref 0, .int (iI (d : Int))] ∧ σ = (wMd now was kept isk ln sp ls ld tb rd und gon lef ak vn dy asd lma lim rea sts apr (iI (T.1 : Int)) (iI ((a : Nat) : Int)) wro num nuA (iI (told : Int)) spe wan fou) ∧ TB T tb ∧ a + sln (wrd (6 + d)) ≤ T.1 ∧ d < 3 ∧ told < 8 ∧ RM rd D ∧
  (told.testBit d = true → K (some (.int (iI 0))) (some (wMd now was kept isk ln sp ls ld tb rd und gon lef ak vn dy asd lma lim rea sts apr (iI (T.1 : Int)) (iI ((a : Nat) : Int)) (iI ((8 * a + 3 : Nat) : Int)) num nuA (iI (told : Int)) spe wan fou))) ∧
  (told.testBit d = false → ∀ vs e, rdNums T (D.1 4) (strL (sgn (6 + d))) (-1) (a + sln (wrd (6 + d))) = .inr (vs, e) → ∀ rd num nuA, RM rd (oSet D d (vs.getD 0 0).toNat) → K (some (.int (iI 1))) (some (wMd now was kept isk ln sp ls ld tb rd und gon lef ak vn dy asd lma lim rea sts apr (iI (T.1 : Int)) (iI ((e : Nat) : Int)) wro num nuA (iI ((told ||| 2 ^ d : Nat) : Int)) spe wan fou))) ∧ (told.testBit d = false → ∀ F : Nat, rdNums T (D.1 4) (strL (sgn (6 + d))) (-1) (a + sln (wrd (6 + d))) = .inl F → ∀ rd spo num nuA stl, K (some (.int (iI 0))) (some (wMd now was kept isk ln sp ls ld tb rd und gon lef ak vn dy asd lma lim rea sts apr (iI (T.1 : Int)) spo (iI (F : Int)) num nuA stl spe wan fou))))
set_option maxRecDepth 20000 in
theorem v_mrset (l : Launch) : z_V l 249 sp_mrset := by
  refine z_V.ofP (by decide +kernel) ?_
  rintro as σ K Post ⟨now, was, kept, isk, ln, sp, ls, ld, tb, rd, und, gon, lef, ak, vn, dy, asd, lma, lim, rea, sts, apr, tz, spo, wro, num, nuA, stl, spe, wan, fou, T, a, D, d, told, rfl, rfl, hT, ha, hd, ht, hN, hX, hS, hF⟩ hP1 hP0
  have h4 := hT.1
  have est : iI (told : Int) ||| z_nn 1 0 <<< (iI (d : Int) &&& 31) = iI ((told ||| 2 ^ d : Nat) : Int) := by rw [show z_nn 1 0 = iI 1 from rfl, zb_shl d (by omega), zb_or]
  have e5 : z_nn 5 0 + iI (d : Int) = iI ((5 + d : Nat) : Int) := by rw [zn_i, iI_add]; rfl
  obtain ⟨g1, g2⟩ := sgn_set d hd
  rw [g1] at hS hF
  have hh : -1 ≤ hiS (d : Int) ∧ hiS (d : Int) ≤ 9999 := by
    have : d = 0 ∨ d = 1 ∨ d = 2 := by omega
    rcases this with rfl | rfl | rfl <;> decide
  have hg : [119, 99, 105].getD d 0 ≠ 117 := by
    have : d = 0 ∨ d = 1 ∨ d = 2 := by omega
    rcases this with rfl | rfl | rfl <;> decide
  have e1 : rdN T (fun v => decide (0 ≤ v ∧ v ≤ hiS (d : Int))) (a + sln (wrd (6 + d))) = rdNum T (D.1 4) ([119, 99, 105].getD d 0) (-1) (a + sln (wrd (6 + d))) := rdNum_eq hg (g2 _ _)
  have body : told.testBit d = false → AW l 249 5 0 0 11 none Post 29 [some (.ref 0), some (.int (iI (d : Int)))] [] (wMd now was kept isk ln sp ls ld tb rd und gon lef ak vn dy asd lma lim rea sts apr (iI (T.1 : Int)) (iI ((a + sln (wrd (6 + d)) : Nat) : Int)) wro num nuA (iI (told : Int)) spe wan fou) 0 0 := by
    intro hb
    rw [← est] at hS
    refine AW.go (bs := b_Mod_readsSet) [] 60 t_Mod_readsSet ?_
    refine ⟨_, v_mhighest l, by decide, rfl, (d : Int), rfl, by omega, by omega, ?_⟩
    refine ⟨_, v_mrto l, by decide, _, _, _, _, _, _, _, _, _, _, _, _, _, _, _, _, _, _, _, _, _, _, 0, 0, _, _, _, _, _, _, _, T, a + sln (wrd (6 + d)), 5 + d, 0, hiS (d : Int), _, _, _, rfl, e5, rfl, rfl, rfl, hT, ha, by omega, ⟨by omega, by omega⟩, hh, fun v e q num => ?_, fun F q spo num nuA => ?_⟩
    · have hv0 := (rdN_inr q).1
      have hv1 := nv_rng (T := T) (s := sk T (a + sln (wrd (6 + d))))
      rw [e1] at q
      have hR := hN.set hd v.toNat
      rw [show ((v.toNat : Nat) : Int) = v by omega] at hR
      exact And.intro (Or.inr rfl) (hP1 _ _ (hS hb [v] e (rdNums_3 q rfl) _ _ _ hR))
    · rw [e1] at q
      exact And.intro (Or.inl rfl) (hP1 _ _ (hF hb F (rdNums_1 q) _ _ _ _ _))
  clear hS hF e1 g1 g2 est e5 hh hg
  have go : ∀ b : Bool, b = !told.testBit d → AW l 249 5 0 0 11 none Post 21 [some (.ref 0), some (.int (iI (d : Int)))] [.int (bI b), .ref (wrd (6 + d) + 2000), .ref 0] (wMd now was kept isk ln sp ls ld tb rd und gon lef ak vn dy asd lma lim rea sts apr (iI (T.1 : Int)) (iI ((a : Nat) : Int)) wro num nuA (iI (told : Int)) spe wan fou) 0 0 := by
    intro b hb
    have : d = 0 ∨ d = 1 ∨ d = 2 := by omega
    rcases this with rfl | rfl | rfl <;>
    · refine AW.go (bs := b_Mod_readsSet) [29] 60 t_Mod_readsSet ?_
      refine ⟨_, v_mtakes l, by decide, _, _, _, _, _, _, _, _, _, _, _, _, _, _, _, _, _, _, _, _, _, _, _, 0, _, _, _, _, _, _, _, a, _, b, rfl, rfl, by decide, fun q => ?_, fun q => ?_⟩
      · refine And.intro (fun w => absurd w (by first | decide | (rw [zd_iff]; decide))) (fun _ => ?_)
        rw [q] at hb
        exact And.intro (Or.inl rfl) (hP1 _ _ (hX (by simpa using hb)))
      · refine And.intro (fun _ => ?_) (fun w => absurd (show z_cond .ne (iI 1) 0 by first | decide | (rw [zd_iff]; decide)) w)
        rw [q] at hb
        exact body (by simpa using hb)
  clear body hX
  have : d = 0 ∨ d = 1 ∨ d = 2 := by omega
  rcases this with rfl | rfl | rfl <;>
  · refine AW.go (bs := b_Mod_readsSet) [21] 60 t_Mod_readsSet ?_
    refine ⟨_, v_msetWord l, by decide, _, rfl, hd, rfl, ?_⟩
    refine ⟨_, v_mhas l, by decide, rfl, told, _, rfl, by omega, by omega, ?_⟩
    refine And.intro (fun h => ?_) (fun h => ?_)
    · rw [zc_bne] at h
      exact go false (by rw [h]; rfl)
    · rw [zc_bne, Bool.not_eq_true] at h
      exact go true (by rw [h]; rfl)
