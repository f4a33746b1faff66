/-! the model reads parts, all of them -/
set_option maxRecDepth 20000 in
theorem wl_pos {T : Tp} {s p : Nat} (hp : p < 9) (h5 : p ≠ 5) (h : isWd T s (wrd p) = true) : 0 < wl T s ∧ wl T s = sln (wrd p) := by
  have h := (of_decide_eq_true h).1
  have key : ∀ p, p < 9 → p ≠ 5 → 0 < sln (wrd p) := by decide +kernel
  have := key p hp h5
  omega
set_option maxRecDepth 20000 in
theorem rdPart_full {T : Tp} {D : Od} {told s p : Nat} (hp : p < 9) (h5 : p ≠ 5) (h : isWd T s (wrd p) = true) (hf : fullP D told p = true) : rdPart T D told s = .inl (8 * s + 3) := by
  unfold rdPart
  rw [partAt_some hp (wl_pos hp h5 h).1 h]
  simp only []
  rw [if_pos hf]
set_option maxRecDepth 20000 in
theorem rdPart_bad {T : Tp} {D : Od} {told s p F : Nat} (hp : p < 9) (h5 : p ≠ 5) (h : isWd T s (wrd p) = true) (hf : fullP D told p = false) (hv : rdNums T (D.1 4) (strL (sgn p)) (-1) (s + sln (wrd p)) = .inl F) : rdPart T D told s = .inl F := by
  unfold rdPart
  obtain ⟨w1, w2⟩ := wl_pos hp h5 h
  rw [partAt_some hp w1 h]
  simp only []
  rw [if_neg (by rw [hf]; decide), w2, hv]
set_option maxRecDepth 20000 in
theorem rdPart_good {T : Tp} {D : Od} {told s p e : Nat} {vs : List Int} (hp : p < 9) (h5 : p ≠ 5) (h : isWd T s (wrd p) = true) (hf : fullP D told p = false) (hv : rdNums T (D.1 4) (strL (sgn p)) (-1) (s + sln (wrd p)) = .inr (vs, e)) : rdPart T D told s = .inr (takeP D p vs, toldP told p, sk T e) := by
  unfold rdPart
  obtain ⟨w1, w2⟩ := wl_pos hp h5 h
  rw [partAt_some hp w1 h]
  simp only []
  rw [if_neg (by rw [hf]; decide), w2, hv]
set_option maxRecDepth 20000 in
theorem rdPart_none {T : Tp} {D : Od} {told s : Nat} (h : ∀ p, p < 9 → p ≠ 5 → isWd T s (wrd p) = false) : rdPart T D told s = .inl (8 * s + 1) := by
  have : partAt T s = none := partAt_none (fun p hp h0 => by
    by_cases e : p = 5
    · subst e
      cases hb : isWd T s (wrd 5) with
      | false => rfl
      | true =>
        have h3 := (of_decide_eq_true hb).1
        have : sln (wrd 5) = 0 := by decide
        omega
    · exact h p hp e)
  unfold rdPart
  rw [this]
set_option maxRecDepth 20000 in
theorem sm_wrd : ∀ p, p < 9 → p ≠ 5 → isSm (wrd p) ∧ wrd p < 19 := by
  intro p hp h5
  have key : ∀ p, p < 9 → p ≠ 5 → (wrd p = 2 ∨ wrd p = 4 ∨ wrd p = 5 ∨ wrd p = 10 ∨ wrd p = 12 ∨ wrd p = 13 ∨ wrd p = 14 ∨ wrd p = 17 ∨ wrd p = 18) ∧ wrd p < 19 := by decide +kernel
  exact key p hp h5
def sp_mrpart : Sp := (7, 0, 0, pMd, fun as σ K => ∃ (now was kept isk ln sp ls ld tb rd : Nat → Int32) (und gon lef ak vn dy asd lma lim rea sts apr tz spo wro num nuA stl spe wan fou : Int32) (T : Tp) (a : Nat) (D : Od) (told : Nat), as = [.ref 0] ∧ σ = (wMd now was kept isk ln sp ls ld tb rd und gon lef ak vn dy asd lma lim rea sts apr (iI (T.1 : Int)) (iI ((a : Nat) : Int)) wro num nuA (iI (told : Int)) spe wan fou) ∧ TB T tb ∧ a ≤ T.1 ∧ RM rd D ∧ OKM D ∧ told < 8 ∧
  (∀ D' told' e, rdPart T D told (sk T a) = .inr (D', told', sk T e) → e ≤ T.1 → ∀ rd num nuA, RM rd D' → K (some (.int (iI 1))) (some (wMd now was kept isk ln sp ls ld tb rd und gon lef ak vn dy asd lma lim rea sts apr (iI (T.1 : Int)) (iI ((e : Nat) : Int)) wro num nuA (iI ((told' : Nat) : Int)) spe wan fou))) ∧ (∀ F : Nat, rdPart T D told (sk T a) = .inl F → ∀ rd spo num nuA stl, K (some (.int (iI 0))) (some (wMd now was kept isk ln sp ls ld tb rd und gon lef ak vn dy asd lma lim rea sts apr (iI (T.1 : Int)) spo (iI (F : Int)) num nuA stl spe wan fou))))
set_option maxRecDepth 20000 in
theorem v_mrpart (l : Launch) : z_V l 250 sp_mrpart := by
  refine z_V.ofP (by decide +kernel) ?_
  rintro as σ K Post ⟨now, was, kept, isk, ln, sp, ls, ld, tb, rd, und, gon, lef, ak, vn, dy, asd, lma, lim, rea, sts, apr, tz, spo, wro, num, nuA, stl, spe, wan, fou, T, a, D, told, rfl, rfl, hT, ha, hN, hO, ht, hS, hF⟩ hP1 hP0
  have h4 := hT.1
  have hs := sk_rng ha
  have hss := sk_sk h4 ha
  generalize hsd : sk T a = s at hs hss hS hF
  -- settings
  have wloop : ∀ (n k : Nat) (x1 : Int32), k + n = 3 → x1 = iI (k : Int) → (∀ p, p < 6 + k → p ≠ 5 → isWd T s (wrd p) = false) →
      AW l 250 7 0 0 11 none Post 47 [some (.ref 0), some (.int x1)] [] (wMd now was kept isk ln sp ls ld tb rd und gon lef ak vn dy asd lma lim rea sts apr (iI (T.1 : Int)) (iI ((s : Nat) : Int)) wro num nuA (iI (told : Int)) spe wan fou) 0 0 := by
    intro n
    induction n with
    | zero =>
      intro k x1 hk hx hw
      subst hx
      refine AW.go (bs := b_Mod_readsPart) [] 60 t_Mod_readsPart ?_
      refine And.intro (fun _ => ?_) (fun q => ?_)
      · refine ⟨_, v_mfails l, by decide, _, _, _, _, _, _, _, _, _, _, _, _, _, _, _, _, _, _, _, _, _, _, _, _, _, _, _, _, _, _, _, 1, s, rfl, rfl, ?_⟩
        exact And.intro (Or.inl rfl) (hP1 _ _ (hF _ (rdPart_none (fun p hp h5 => hw p (by omega) h5)) _ _ _ _ _))
      · exfalso; rw [zn_i, zc_ge (by omega) (by omega) (by omega) (by omega)] at q; omega
    | succ n ih =>
      intro k x1 hk hx hw
      subst hx
      have hk3 : k < 3 := by omega
      obtain ⟨m1, m2⟩ := sm_wrd (6 + k) (by omega) (by omega)
      have next : isWd T s (wrd (6 + k)) = false → AW l 250 7 0 0 11 none Post 47 [some (.ref 0), some (.int (iI (k : Int) + z_nn 1 0))] [] (wMd now was kept isk ln sp ls ld tb rd und gon lef ak vn dy asd lma lim rea sts apr (iI (T.1 : Int)) (iI ((s : Nat) : Int)) wro num nuA (iI (told : Int)) spe wan fou) 0 0 := by
        intro hf
        refine ih (k + 1) _ (by omega) (zn_inc k) (fun p hp h5 => ?_)
        by_cases e : p = 6 + k
        · rw [e]; exact hf
        · exact hw p (by omega) h5
      have hit : isWd T s (wrd (6 + k)) = true → AW l 250 7 0 0 11 none Post 63 [some (.ref 0), some (.int (iI (k : Int)))] [] (wMd now was kept isk ln sp ls ld tb rd und gon lef ak vn dy asd lma lim rea sts apr (iI (T.1 : Int)) (iI ((s : Nat) : Int)) wro num nuA (iI (told : Int)) spe wan fou) 0 0 := by
        intro hf
        have hw3 := wl_3 hs.2 hf
        have f1 : fullP D told (6 + k) = told.testBit k := by unfold fullP; rw [if_neg (by omega), show 6 + k - 6 = k by omega]
        refine AW.go (bs := b_Mod_readsPart) [] 60 t_Mod_readsPart ?_
        refine ⟨_, v_mrset l, by decide, _, _, _, _, _, _, _, _, _, _, _, _, _, _, _, _, _, _, _, _, _, _, 0, 0, _, _, _, 0, _, _, _, T, s, D, k, told, rfl, rfl, hT, hw3, hk3, ht, hN, fun q => ?_, fun q vs e hv rd num nuA hR => ?_, fun q F hv rd spo num nuA stl => ?_⟩
        · exact And.intro (Or.inl rfl) (hP1 _ _ (hF _ (rdPart_full (by omega) (by omega) hf (by rw [f1, q])) _ _ _ _ _))
        · have hg := rdPart_good (D := D) (told := told) (by omega) (by omega) hf (by rw [f1, q]) hv
          have t1 : takeP D (6 + k) vs = oSet D k (vs.getD 0 0).toNat := by unfold takeP; rw [if_neg (by omega), show 6 + k - 6 = k by omega]
          have t2 : toldP told (6 + k) = told ||| 2 ^ k := by unfold toldP; rw [if_neg (by omega), show 6 + k - 6 = k by omega]
          rw [t1, t2] at hg
          exact And.intro (Or.inr rfl) (hP1 _ _ (hS _ _ e hg (rdNums_inr hw3 hv).2.2 _ _ _ hR))
        · exact And.intro (Or.inl rfl) (hP1 _ _ (hF F (rdPart_bad (by omega) (by omega) hf (by rw [f1, q]) hv) _ _ _ _ _))
      clear ih hw hS hF
      have : k = 0 ∨ k = 1 ∨ k = 2 := by omega
      rcases this with rfl | rfl | rfl <;>
      · refine AW.go (bs := b_Mod_readsPart) [47, 63] 60 t_Mod_readsPart ?_
        refine And.intro (fun q => absurd q (by first | decide | (rw [zd_iff]; decide))) (fun _ => ?_)
        refine ⟨_, v_msetWord l, by decide, _, rfl, hk3, rfl, ?_⟩
        refine ⟨_, v_misWord l, by decide, _, _, _, _, _, _, _, _, _, _, _, _, _, _, _, _, _, _, _, _, _, _, 0, 0, _, _, _, _, _, _, _, T, s, _, rfl, rfl, hT, hs.2, m2, m1, ?_⟩
        show _ ∧ _
        rw [hss]
        refine And.intro (fun h => ?_) (fun h => ?_)
        · rw [zc_beq] at h
          exact next h
        · rw [zc_beq, Bool.not_eq_false] at h
          exact hit h
  -- entries
  have kloop : ∀ (n k : Nat) (x1 : Int32), k + n = 4 → x1 = iI (k : Int) → isWd T s (wrd 4) = false → (∀ p, p < k → isWd T s (wrd p) = false) →
      AW l 250 7 0 0 11 none Post 17 [some (.ref 0), some (.int x1)] [] (wMd now was kept isk ln sp ls ld tb rd und gon lef ak vn dy asd lma lim rea sts apr (iI (T.1 : Int)) (iI ((s : Nat) : Int)) wro num nuA (iI (told : Int)) spe wan fou) 0 0 := by
    intro n
    induction n with
    | zero =>
      intro k x1 hk hx hp4 hw
      subst hx
      refine AW.go (bs := b_Mod_readsPart) [47] 60 t_Mod_readsPart ?_
      refine And.intro (fun _ => ?_) (fun q => ?_)
      · refine wloop 3 0 _ rfl rfl (fun p hp h5 => ?_)
        by_cases e : p = 4
        · rw [e]; exact hp4
        · exact hw p (by omega)
      · exfalso; rw [zn_i, zc_ge (by omega) (by omega) (by omega) (by omega)] at q; omega
    | succ n ih =>
      intro k x1 hk hx hp4 hw
      subst hx
      have hk4 : k < 4 := by omega
      obtain ⟨m1, m2⟩ := sm_wrd k (by omega) (by omega)
      have next : isWd T s (wrd k) = false → AW l 250 7 0 0 11 none Post 17 [some (.ref 0), some (.int (iI (k : Int) + z_nn 1 0))] [] (wMd now was kept isk ln sp ls ld tb rd und gon lef ak vn dy asd lma lim rea sts apr (iI (T.1 : Int)) (iI ((s : Nat) : Int)) wro num nuA (iI (told : Int)) spe wan fou) 0 0 := by
        intro hf
        refine ih (k + 1) _ (by omega) (zn_inc k) hp4 (fun p hp => ?_)
        by_cases e : p = k
        · rw [e]; exact hf
        · exact hw p (by omega)
      have hit : isWd T s (wrd k) = true → AW l 250 7 0 0 11 none Post 33 [some (.ref 0), some (.int (iI (k : Int)))] [] (wMd now was kept isk ln sp ls ld tb rd und gon lef ak vn dy asd lma lim rea sts apr (iI (T.1 : Int)) (iI ((s : Nat) : Int)) wro num nuA (iI (told : Int)) spe wan fou) 0 0 := by
        intro hf
        have hw3 := wl_3 hs.2 hf
        have f1 : fullP D told k = decide (oX k ≤ D.1 k) := by unfold fullP; rw [if_pos (by omega)]
        refine AW.go (bs := b_Mod_readsPart) [] 60 t_Mod_readsPart ?_
        refine ⟨_, v_mrentry l, by decide, _, _, _, _, _, _, _, _, _, _, _, _, _, _, _, _, _, _, _, _, _, _, 0, 0, _, _, _, _, _, _, _, T, s, D, k, rfl, rfl, hT, hw3, hk4, hN, hO, fun q => ?_, fun q vs e hv rd num nuA hR => ?_, fun q F hv rd spo num nuA => ?_⟩
        · exact And.intro (Or.inl rfl) (hP1 _ _ (hF _ (rdPart_full (by omega) (by omega) hf (by rw [f1]; exact decide_eq_true q)) _ _ _ _ _))
        · have hg := rdPart_good (D := D) (told := told) (by omega) (by omega) hf (by rw [f1]; exact decide_eq_false (by omega)) hv
          have t1 : takeP D k vs = oAdd D k (fun i => vs.getD i 0) := by unfold takeP; rw [if_pos (by omega)]
          have t2 : toldP told k = told := by unfold toldP; rw [if_pos (by omega)]
          rw [t1, t2] at hg
          exact And.intro (Or.inr rfl) (hP1 _ _ (hS _ _ e hg (rdNums_inr hw3 hv).2.2 _ _ _ hR))
        · exact And.intro (Or.inl rfl) (hP1 _ _ (hF F (rdPart_bad (by omega) (by omega) hf (by rw [f1]; exact decide_eq_false (by omega)) hv) _ _ _ _ _))
      clear ih hw hS hF wloop
      rcases d4 hk4 with rfl | rfl | rfl | rfl <;>
      · refine AW.go (bs := b_Mod_readsPart) [17, 33] 60 t_Mod_readsPart ?_
        refine And.intro (fun q => absurd q (by first | decide | (rw [zd_iff]; decide))) (fun _ => ?_)
        refine ⟨_, v_mentryWord l, by decide, _, rfl, hk4, rfl, ?_⟩
        refine ⟨_, v_misWord l, by decide, _, _, _, _, _, _, _, _, _, _, _, _, _, _, _, _, _, _, _, _, _, _, 0, 0, _, _, _, _, _, _, _, T, s, _, rfl, rfl, hT, hs.2, m2, m1, ?_⟩
        show _ ∧ _
        rw [hss]
        refine And.intro (fun h => ?_) (fun h => ?_)
        · rw [zc_beq] at h
          exact next h
        · rw [zc_beq, Bool.not_eq_false] at h
          exact hit h
  refine AW.go (bs := b_Mod_readsPart) [17] 60 t_Mod_readsPart ?_
  refine ⟨_, v_misWord l, by decide, _, _, _, _, _, _, _, _, _, _, _, _, _, _, _, _, _, _, _, _, _, _, 0, 0, _, _, _, _, _, _, _, T, a, 12, rfl, rfl, hT, ha, by decide, by unfold isSm; decide, ?_⟩
  show _ ∧ _
  rw [hsd]
  refine And.intro (fun h => ?_) (fun h => ?_)
  · rw [zc_beq] at h
    exact kloop 4 0 _ rfl rfl h (fun p hp => absurd hp (Nat.not_lt_zero p))
  · rw [zc_beq, Bool.not_eq_false] at h
    have h : isWd T s (wrd 4) = true := h
    have hw3 := wl_3 hs.2 h
    have f1 : fullP D told 4 = decide (12 ≤ D.1 4) := by unfold fullP; rw [if_pos (by omega), x_4]
    have eg : strL (sgn 4) = [117, 108, 108, 108] := by decide
    refine ⟨_, v_mrpost l, by decide, _, _, _, _, _, _, _, _, _, _, _, _, _, _, _, _, _, _, _, _, _, _, 0, 0, _, _, _, _, _, _, _, T, s, D, rfl, rfl, hT, hw3, hN, hO, fun q => ?_, fun q vs e hv rd num nuA hR => ?_, fun q F hv rd spo num nuA => ?_⟩
    · exact And.intro (Or.inl rfl) (hP1 _ _ (hF _ (rdPart_full (by omega) (by omega) h (by rw [f1]; exact decide_eq_true q)) _ _ _ _ _))
    · rw [← eg] at hv
      have hg := rdPart_good (D := D) (told := told) (by omega) (by omega) h (by rw [f1]; exact decide_eq_false (by omega)) hv
      have t1 : takeP D 4 vs = oAdd D 4 (fun i => vs.getD i 0) := by unfold takeP; rw [if_pos (by omega)]
      have t2 : toldP told 4 = told := by unfold toldP; rw [if_pos (by omega)]
      rw [t1, t2] at hg
      exact And.intro (Or.inr rfl) (hP1 _ _ (hS _ _ e hg (rdNums_inr hw3 hv).2.2 _ _ _ hR))
    · rw [← eg] at hv
      exact And.intro (Or.inl rfl) (hP1 _ _ (hF F (rdPart_bad (by omega) (by omega) h (by rw [f1]; exact decide_eq_false (by omega)) hv) _ _ _ _ _))
/-! a row begins -/
set_option maxRecDepth 20000 in
theorem RM_od0 {row : Nat → Int32} (h : ∀ k, k < 657 → k ≠ 6 → k ≠ 7 → row k = iI 0) (h6 : row 6 = iI 1) (h7 : row 7 = iI 2) : RM row od0 := by
  refine ⟨fun d hd => ⟨?_, Nat.zero_le _⟩, fun d k c _ hk _ => absurd hk (Nat.not_lt_zero k), fun w hw => ?_⟩
  · have := mS_lt hd
    exact h _ (by omega) (by omega) (by omega)
  · have : w = 0 ∨ w = 1 ∨ w = 2 := by omega
    rcases this with rfl | rfl | rfl
    · exact h 5 (by omega) (by omega) (by omega)
    · exact h6
    · exact h7
def sp_mbegins : Sp := (0, 0, 0, [(0, [])], fun as σ K => ∃ row : Nat → Int32, as = [.ref 0] ∧ σ = [.inl (0, 657, row)] ∧ ∀ row', RM row' od0 → K none (some [.inl (0, 657, row')]))
set_option maxRecDepth 20000 in
theorem v_mbegins (l : Launch) : z_V l 147 sp_mbegins := by
  refine z_V.ofP (by decide +kernel) ?_
  rintro as σ K Post ⟨row, rfl, rfl, hK⟩ hP1 hP0
  have loop : ∀ (n k : Nat) (x : Int32) (row : Nat → Int32), n = 657 - k → k ≤ 657 → x = iI (k : Int) → (∀ j, j < k → row j = iI 0) →
      AW l 147 0 0 0 1 none Post 2 [some (.ref 0), some (.int x)] [] [.inl (0, 657, row)] 0 0 := by
    intro n
    induction n using Nat.strongRecOn with
    | ind n ih =>
      intro k x row hn hk hx hj
      subst hx
      refine AW.go (bs := b_Mod_begins) [2] 60 t_Mod_begins ?_
      refine And.intro (fun h => ?_) (fun h => ?_)
      · rw [zn_i, zc_ge (by omega) (by omega) (by omega) (by omega)] at h
        refine And.intro (by first | decide | exact zn_in (by decide) (by omega)) ?_
        refine And.intro (by first | decide | exact zn_in (by decide) (by omega)) ?_
        show Post _ _
        rw [zn_cl (by omega), zn_cl (by omega)]
        refine hP1 _ _ (hK _ (RM_od0 (fun j h1 h2 h3 => ?_) ?_ ?_))
        · unfold upd; rw [if_neg h3, if_neg h2]; exact hj j (by omega)
        · unfold upd; rw [if_neg (by omega), if_pos rfl]; rfl
        · unfold upd; rw [if_pos rfl]; rfl
      · rw [zn_i, zc_ge (by omega) (by omega) (by omega) (by omega)] at h
        refine And.intro (zN_in (by omega) (by omega)) ?_
        show AW _ _ _ _ _ _ _ _ _ _ _ _ _ _
        rw [zN_cl (by omega)]
        refine ih _ (by omega) (k + 1) _ _ rfl (by omega) (zn_inc k) (fun j h1 => ?_)
        unfold upd
        by_cases e : j = k
        · rw [if_pos e]; rfl
        · rw [if_neg e]; exact hj j (by omega)
  refine AW.go (bs := b_Mod_begins) [2] 60 t_Mod_begins ?_
  exact loop _ 0 _ row rfl (by omega) rfl (fun j hj => absurd hj (Nat.not_lt_zero j))
/-- behind a part -/
def cnt (T : Tp) (k : Nat) (D : Od) (told e : Nat) : Nat ⊕ Od := if T.1 ≤ e then .inr D else if tbt T e ≠ 59 then .inl (8 * e + 1) else rdAll T k D told (sk T (e + 1))
set_option maxRecDepth 20000 in
theorem rdAll_bad {T : Tp} {k : Nat} {D : Od} {told a F : Nat} (h : rdPart T D told a = .inl F) : rdAll T (k + 1) D told a = .inl F := by rw [rdAll, h]
set_option maxRecDepth 20000 in
theorem rdAll_good {T : Tp} {k : Nat} {D D' : Od} {told t' a e : Nat} (h : rdPart T D told a = .inr (D', t', e)) : rdAll T (k + 1) D told a = cnt T k D' t' e := by rw [rdAll, h]; rfl
def sp_mrall : Sp := (9, 0, 0, pMd, fun as σ K => ∃ (now was kept isk ln sp ls ld tb rd : Nat → Int32) (und gon lef ak vn dy asd lma lim rea sts apr tz spo wro num nuA stl spe wan fou : Int32) (T : Tp), as = [.ref 0] ∧ σ = (wMd now was kept isk ln sp ls ld tb rd und gon lef ak vn dy asd lma lim rea sts apr (iI (T.1 : Int)) spo wro num nuA stl spe wan fou) ∧ TB T tb ∧
  (∀ D, rdF T = .inr D → ∀ rd spo num nuA stl, RM rd D → K (some (.int (iI 1))) (some (wMd now was kept isk ln sp ls ld tb rd und gon lef ak vn dy asd lma lim rea sts apr (iI (T.1 : Int)) spo wro num nuA stl spe wan fou))) ∧ (∀ F : Nat, rdF T = .inl F → ∀ rd spo num nuA stl, K (some (.int (iI 0))) (some (wMd now was kept isk ln sp ls ld tb rd und gon lef ak vn dy asd lma lim rea sts apr (iI (T.1 : Int)) spo (iI (F : Int)) num nuA stl spe wan fou))))
set_option maxRecDepth 20000 in
theorem v_mrall (l : Launch) : z_V l 251 sp_mrall := by
  refine z_V.ofP (by decide +kernel) ?_
  rintro as σ K Post ⟨now, was, kept, isk, ln, sp, ls, ld, tb, rd, und, gon, lef, ak, vn, dy, asd, lma, lim, rea, sts, apr, tz, spo, wro, num, nuA, stl, spe, wan, fou, T, rfl, rfl, hT, hS, hF⟩ hP1 hP0
  have h4 := hT.1
  have bad : ∀ (F : Nat) (rd : Nat → Int32) (spo num nuA stl : Int32), rdF T = .inl F → AW l 251 9 0 0 11 none Post 32 [some (.ref 0), some (.int (iI 0))] [] (wMd now was kept isk ln sp ls ld tb rd und gon lef ak vn dy asd lma lim rea sts apr (iI (T.1 : Int)) spo (iI (F : Int)) num nuA stl spe wan fou) 0 0 := by
    intro F rd spo num nuA stl hf
    refine AW.go (bs := b_Mod_readsAll) [] 60 t_Mod_readsAll ?_
    refine And.intro (fun _ => ?_) (fun w => absurd rfl w)
    refine And.intro (fun _ => ?_) (fun w => absurd rfl w)
    exact And.intro (Or.inl rfl) (hP1 _ _ (hF F hf _ _ _ _ _))
  have good : ∀ (k : Nat) (D : Od) (told e : Nat) (rd : Nat → Int32) (num nuA : Int32), rdF T = cnt T k D told (sk T e) → RM rd D → OKM D → told < 8 → e ≤ T.1 → 401 ≤ sk T e + k →
      AW l 251 9 0 0 11 none Post 32 [some (.ref 0), some (.int (iI 1))] [] (wMd now was kept isk ln sp ls ld tb rd und gon lef ak vn dy asd lma lim rea sts apr (iI (T.1 : Int)) (iI (e : Int)) wro num nuA (iI (told : Int)) spe wan fou) 0 0 := by
    intro k
    induction k with
    | zero =>
      intro D told e rd num nuA hf hN hO ht he hk
      have := sk_rng he
      omega
    | succ k ih =>
      intro D told e rd num nuA hf hN hO ht he hk
      have hs := sk_rng he
      have hss := sk_sk h4 he
      generalize hsd : sk T e = s at hs hss hf hk
      have hr := tb_rng T s
      unfold cnt at hf
      refine AW.go (bs := b_Mod_readsAll) [32] 60 t_Mod_readsAll ?_
      refine And.intro (fun w => absurd w (by first | decide | (rw [zd_iff]; decide))) (fun _ => ?_)
      refine ⟨_, v_mnext l, by decide, _, _, _, _, _, _, _, _, _, _, _, _, _, _, _, _, _, _, _, _, _, _, 0, 0, _, _, _, _, _, _, _, T, e, rfl, rfl, hT, he, ?_⟩
      show _ ∧ _
      rw [hsd]
      refine And.intro (fun h => ?_) (fun h => ?_)
      · rw [zn_i, zc_ne (by omega) (by omega) (by omega) (by omega)] at h
        refine And.intro (fun w => absurd w (by first | decide | (rw [zd_iff]; decide))) (fun _ => ?_)
        refine ⟨_, v_mnext l, by decide, _, _, _, _, _, _, _, _, _, _, _, _, _, _, _, _, _, _, _, _, _, _, 0, 0, _, _, _, _, _, _, _, T, s, rfl, rfl, hT, hs.2, ?_⟩
        show _ ∧ _
        rw [hss]
        refine And.intro (fun q => ?_) (fun q => ?_)
        · rw [zn_m, zc_eq (by omega) (by omega) (by omega) (by omega)] at q
          have hts : T.1 ≤ s := by
            by_cases w : T.1 ≤ s
            · exact w
            · have := tb_in (T := T) (i := s) (by omega); omega
          rw [if_pos hts] at hf
          exact And.intro (Or.inr rfl) (hP1 _ _ (hS D hf _ _ _ _ _ hN))
        · rw [zn_m, zc_eq (by omega) (by omega) (by omega) (by omega)] at q
          have hts : ¬ T.1 ≤ s := fun w => q (by rw [tb_out w]; rfl)
          rw [if_neg hts, if_pos (fun w => h (by rw [w]; rfl))] at hf
          refine ⟨_, v_mfails l, by decide, _, _, _, _, _, _, _, _, _, _, _, _, _, _, _, _, _, _, _, _, _, _, _, _, _, _, _, _, _, _, _, 1, s, rfl, rfl, ?_⟩
          refine And.intro (fun _ => ?_) (fun w => absurd rfl w)
          exact And.intro (Or.inl rfl) (hP1 _ _ (hF _ hf _ _ _ _ _))
      · rw [zn_i, zc_ne (by omega) (by omega) (by omega) (by omega), Classical.not_not] at h
        have hts : ¬ T.1 ≤ s := fun w => by rw [tb_out w] at h; omega
        rw [if_neg hts, if_neg (fun w => w h)] at hf
        show ∃ sp : Sp, _
        rw [zn_inc]
        have hs2 := sk_rng (show s + 1 ≤ T.1 by omega)
        refine ⟨_, v_mrpart l, by decide, _, _, _, _, _, _, _, _, _, _, _, _, _, _, _, _, _, _, _, _, _, _, 0, 0, _, _, _, 0, _, _, _, T, s + 1, D, told, rfl, rfl, hT, by omega, hN, hO, ht, fun D' told' e' q he' rd num nuA hR => ?_, fun F q rd spo num nuA stl => ?_⟩
        · obtain ⟨c1, c2, c3, c4⟩ := rdPart_inr hO hs2.2 q
          exact ih D' told' e' rd num nuA (by rw [hf, rdAll_good q]) hR c1 (c4 ht) he' (by omega)
        · exact bad F _ _ _ _ _ (by rw [hf, rdAll_bad q])
  have hs0 := sk_rng (Nat.zero_le T.1)
  have hss0 := sk_sk h4 (Nat.zero_le T.1)
  have hr0 := tb_rng T (sk T 0)
  refine AW.go (bs := b_Mod_readsAll) [32] 60 t_Mod_readsAll ?_
  refine ⟨_, v_mbegins l, by decide, rd, rfl, rfl, fun rd hR => ?_⟩
  refine ⟨_, v_mnext l, by decide, _, _, _, _, _, _, _, _, _, _, _, _, _, _, _, _, _, _, _, _, _, _, 0, 0, _, _, _, _, _, _, _, T, 0, rfl, rfl, hT, Nat.zero_le _, ?_⟩
  refine And.symm (And.intro (fun h => ?_) (fun h => ?_))
  · rw [zn_m, zc_ne (by omega) (by omega) (by omega) (by omega), Classical.not_not] at h
    have hts : T.1 ≤ sk T 0 := by
      by_cases w : T.1 ≤ sk T 0
      · exact w
      · have := tb_in (T := T) (i := sk T 0) (by omega); omega
    exact And.intro (Or.inr rfl) (hP1 _ _ (hS od0 (by unfold rdF; rw [if_pos hts]) _ _ _ _ _ hR))
  · rw [zn_m, zc_ne (by omega) (by omega) (by omega) (by omega)] at h
    have hts : ¬ T.1 ≤ sk T 0 := fun w => h (by rw [tb_out w]; rfl)
    have hf : rdF T = rdAll T 401 od0 0 (sk T 0) := by unfold rdF; rw [if_neg hts]
    refine ⟨_, v_mrpart l, by decide, _, _, _, _, _, _, _, _, _, _, _, _, _, _, _, _, _, _, _, _, _, _, 0, 0, _, _, _, 0, _, _, _, T, sk T 0, od0, 0, rfl, rfl, hT, hs0.2, hR, od0_ok, by omega, fun D' told' e' q he' rd num nuA hR => ?_, fun F q rd spo num nuA stl => ?_⟩
    · rw [hss0] at q
      obtain ⟨c1, c2, c3, c4⟩ := rdPart_inr od0_ok hs0.2 q
      exact good 400 D' told' e' rd num nuA (by rw [hf, rdAll_good q]) hR c1 (c4 (by omega)) he' (by omega)
    · rw [hss0] at q
      exact bad F _ _ _ _ _ (by rw [hf, rdAll_bad q])
set_option maxRecDepth 20000 in
theorem v_mtell (l : Launch) : z_V l 252 (m0 40 f_tell) := by
  refine z_V.ofP (by decide +kernel) ?_
  rintro as σ K Post ⟨S, ⟨hOS, now, was, kept, isk, ln, sp, ls, ld, tb, rd, und, gon, lef, ak, vn, dy, asd, lma, lim, rea, sts, apr, tz, spo, wro, num, nuA, stl, spe, wan, fou, rfl, hMR⟩, rfl, hK⟩ hP1 hP0
  obtain ⟨hN, h2_, rfl, h4_, h5_, h6_, h7_, rfl, rfl, rfl, h11_⟩ := id hMR
  have hO := hOS.1
  have hx4 := hO.2.2.2.2.2.2.2.2.2 4 (by omega)
  rw [x_4] at hx4
  have hx5 := hO.2.2.2.2.2.2.2.2.2 5 (by omega)
  rw [x_5] at hx5
  unfold f_tell at hK
  have loop : ∀ (D : Od) (rd : Nat → Int32) (spo num nuA stl : Int32), rdF S.2.2.2 = .inr D → RM rd D → ∀ (n j : Nat) (x1 x : Int32) (now : Nat → Int32), n = 657 - j → j ≤ 657 → x = iI (j : Int) → (∀ q, q < j → now q = rd q) →
      AW l 252 40 0 0 11 none Post 24 [some (.ref 0), some (.int x1), some (.int x)] [] (wMd now was kept isk ln sp ls ld tb rd (iI S.2.1.length) (iI (-1)) (iI (-1)) ak vn dy asd lma lim rea sts apr (z_nn 0 0) spo wro num nuA stl spe wan fou) 0 0 := by
    intro D rd spo num nuA stl hD hR n
    rw [hD] at hK
    have hOD := rdF_ok hD
    induction n using Nat.strongRecOn with
    | ind n ih =>
      intro j x1 x now hn hj e1 h1
      subst e1
      refine AW.go (bs := b_Mod_tell) [24] 60 t_Mod_tell ?_
      refine And.intro (fun h => ?_) (fun h => ?_)
      · rw [zn_i, zc_ge (by omega) (by omega) (by omega) (by omega)] at h
        have : j = 657 := by omega
        subst this
        have hN' : RM now D := hR.cong (fun q hq => h1 q hq)
        refine ⟨_, v_mposts l, by decide, _, _, _, _, _, _, _, _, _, _, _, _, _, _, _, _, _, _, _, _, _, _, _, _, _, _, _, _, _, _, _, D, rfl, hN', hOD, rfl, ?_⟩
        exact hP1 _ _ (hK _ (isMd.mk ⟨hOD, fun _ h => by simp at h, by simp, hOS.2.2.2.1, hOS.2.2.2.2.1, Nat.zero_le _⟩ ⟨hN', fun i M h => by simp at h, rfl, h4_, h5_, h6_, h7_, rfl, rfl, rfl, fun i h => absurd h (Nat.not_lt_zero i)⟩))
      rw [zn_i, zc_ge (by omega) (by omega) (by omega) (by omega)] at h
      refine And.intro (zN_in (by omega) (by omega)) ?_
      refine And.intro (zN_in (by omega) (by omega)) ?_
      show AW _ _ _ _ _ _ _ _ _ _ _ _ _ _
      rw [zN_cl (by omega)]
      refine ih _ (by omega) (j + 1) _ _ _ rfl (by omega) (zn_inc j) (fun q hq => ?_)
      unfold upd
      by_cases e2 : q = j
      · rw [if_pos e2, e2]
      · rw [if_neg e2]; exact h1 q (by omega)
  refine AW.go (bs := b_Mod_tell) [24] 60 t_Mod_tell ?_
  refine ⟨_, v_mrall l, by decide, _, _, _, _, _, _, _, _, _, _, _, _, _, _, _, _, _, _, _, _, _, _, 0, _, _, _, _, _, _, _, _, S.2.2.2, rfl, rfl, ⟨hOS.2.2.2.2.2, h11_⟩, fun D hD rd spo num nuA stl hR => ?_, fun F hD rd spo num nuA stl => ?_⟩
  · refine And.intro (fun _ => ?_) (fun w => absurd (show z_cond .ne (iI 1) 0 by first | decide | (rw [zd_iff]; decide)) w)
    exact loop D rd spo num nuA stl hD hR _ 0 _ _ _ rfl (by omega) rfl (fun q hq => absurd hq (Nat.not_lt_zero q))
  · rw [hD] at hK
    refine And.symm (And.intro (fun _ => ?_) (fun w => absurd w (by first | decide | (rw [zd_iff]; decide))))
    show Post _ _
    rw [zn_m, iI_sub]
    exact hP1 _ _ (hK _ (isMd.mk ⟨hOS.1, hOS.2.1, hOS.2.2.1, hOS.2.2.2.1, hOS.2.2.2.2.1, Nat.zero_le _⟩ ⟨hN, h2_, rfl, h4_, h5_, h6_, h7_, rfl, rfl, rfl, fun i h => absurd h (Nat.not_lt_zero i)⟩))
