/-! the model's letter: the parts -/
def sp_mentryWord : Sp := (0, 0, 0, [], fun as σ K => ∃ d : Nat, as = [.int (iI (d : Int))] ∧ d < 4 ∧ σ = [] ∧ K (some (.ref (wrd d + 2000))) none)
set_option maxRecDepth 20000 in
theorem v_mentryWord (l : Launch) : z_V l 246 sp_mentryWord := by
  refine z_V.ofP (by decide +kernel) ?_
  rintro as σ K Post ⟨d, rfl, hd, rfl, hK⟩ hP1 hP0
  have ex : ∀ x : Int, 0 ≤ x → x ≤ 20 → iI (d : Int) = Int32.ofInt x → (d : Int) = x := fun x h0 h1 e => (iI_inj (by omega) (by omega) (by omega) (by omega)).mp e
  refine AW.go (bs := b_Mod_entryWord) [] 60 t_Mod_entryWord ?_
  refine And.intro (fun h => ?_) ⟨fun h => ?_, fun h => ?_, fun h => ?_, trivial⟩
  · rw [iI_toInt (by omega) (by omega)] at h
    have : d = 3 := by omega
    subst this
    exact hP0 _ hK
  · have h := ex 0 (by omega) (by omega) h
    have : d = 0 := by omega
    subst this
    exact hP0 _ hK
  · have h := ex 1 (by omega) (by omega) h
    have : d = 1 := by omega
    subst this
    exact hP0 _ hK
  · have h := ex 2 (by omega) (by omega) h
    have : d = 2 := by omega
    subst this
    exact hP0 _ hK
set_option maxRecDepth 20000 in
theorem d3 {d : Nat} (h : d < 3) : d = 0 ∨ d = 1 ∨ d = 2 := by omega
def sp_msetWord : Sp := (0, 0, 0, [], fun as σ K => ∃ d : Nat, as = [.int (iI (d : Int))] ∧ d < 3 ∧ σ = [] ∧ K (some (.ref (wrd (6 + d) + 2000))) none)
set_option maxRecDepth 20000 in
theorem v_msetWord (l : Launch) : z_V l 248 sp_msetWord := by
  refine z_V.ofP (by decide +kernel) ?_
  rintro as σ K Post ⟨d, rfl, hd, rfl, hK⟩ hP1 hP0
  refine AW.go (bs := b_Mod_setWord) [] 60 t_Mod_setWord ?_
  refine And.symm (And.intro (fun h => ?_) (fun h => ?_))
  · rw [zc_ne0 (by omega) (by omega), Classical.not_not] at h
    have : d = 0 := by omega
    subst this
    exact hP0 _ hK
  rw [zc_ne0 (by omega) (by omega)] at h
  refine And.symm (And.intro (fun h2 => ?_) (fun h2 => ?_))
  · rw [zn_i, zc_ne (by omega) (by omega) (by omega) (by omega), Classical.not_not] at h2
    have : d = 1 := by omega
    subst this
    exact hP0 _ hK
  · rw [zn_i, zc_ne (by omega) (by omega) (by omega) (by omega)] at h2
    have : d = 2 := by omega
    subst this
    exact hP0 _ hK
set_option maxRecDepth 20000 in
theorem numL_top : strL 1 = numL (-2) := by decide
def sp_mspellPost : Sp := (6, 0, 0, pMd, fun as σ K => ∃ (now was kept isk ln sp ls ld tb rd : Nat → Int32) (und gon lef ak vn dy asd lma lim rea sts apr tz spo wro num nuA stl spe wan fou : Int32) (w : Int) (cs : List Nat) (M : Od) (p : Nat), as = [.ref 0, .int (iI (p : Int))] ∧ σ = (wMd now was kept isk ln sp ls ld tb rd und gon lef ak vn dy asd lma lim rea sts apr tz spo wro num nuA stl (iI ((cs).length : Int)) (iI w) (iI (fnd (cs) w))) ∧ RM now M ∧ OKM M ∧ p < M.1 4 ∧ ir w ∧ cs.length < 100000 ∧ K none (some (wMd now was kept isk ln sp ls ld tb rd und gon lef ak vn dy asd lma lim rea sts apr tz spo wro num nuA stl (iI ((colsF M 4 p 4 (sepL cs 12)).length : Int)) (iI w) (iI (fnd (colsF M 4 p 4 (sepL cs 12)) w)))))
set_option maxRecDepth 20000 in
theorem v_mspellPost (l : Launch) : z_V l 267 sp_mspellPost := by
  refine z_V.ofP (by decide +kernel) ?_
  rintro as σ K Post ⟨now, was, kept, isk, ln, sp, ls, ld, tb, rd, und, gon, lef, ak, vn, dy, asd, lma, lim, rea, sts, apr, tz, spo, wro, num, nuA, stl, spe, wan, fou, w, cs, M, p, rfl, rfl, hN, hO, hp, hw, hl, hK⟩ hP1 hP0
  have b1 := sepL_len cs 12
  have hx4 := hO.2.2.2.2.2.2.2.2.2 4 (by omega)
  rw [x_4] at hx4
  have h4 := (hO.2.2.2.2.1 p hp).1
  have loop : ∀ (n k : Nat) (x : Int32) (cs' : List Nat), n = 3 - k → k ≤ 3 → x = iI (k : Int) → cs' = colsF M 4 p (1 + k) (sepL cs 12) →
      AW l 267 6 0 0 11 none Post 37 [some (.ref 0), some (.int (iI (p : Int))), some (.int x)] [] (wMd now was kept isk ln sp ls ld tb rd und gon lef ak vn dy asd lma lim rea sts apr tz spo wro num nuA stl (iI ((cs').length : Int)) (iI w) (iI (fnd (cs') w))) 0 0 := by
    intro n
    induction n with
    | zero =>
      intro k x cs' hn hk hx hc
      subst hx; subst hc
      have : k = 3 := by omega
      subst this
      refine AW.go (bs := b_Mod_spellPost) [37] 60 t_Mod_spellPost ?_
      refine And.intro (fun _ => ?_) (fun h => absurd (show z_cond .ge (iI ((3 : Nat) : Int)) (z_nn 3 0) by first | decide | (rw [zd_iff]; decide)) h)
      exact hP1 _ _ hK
    | succ n ih =>
      intro k x cs' hn hk hx hc
      subst hx; subst hc
      have b2 := colsF_len M 4 p (sepL cs 12) (1 + k)
      have hc := (hO.2.2.2.2.1 p hp).2 (1 + k) (by omega) (by omega)
      refine AW.go (bs := b_Mod_spellPost) [37] 60 t_Mod_spellPost ?_
      refine And.intro (fun h => ?_) (fun h => ?_)
      · exfalso; rw [zn_i, zc_ge (by omega) (by omega) (by omega) (by omega)] at h; omega
      refine ⟨_, v_mlimitOf l, by decide, _, _, _, _, _, _, _, _, _, _, _, _, _, _, _, _, _, _, _, _, _, _, _, _, _, _, _, _, _, _, _, M, rfl, hN, hO, p, k, _, rfl, rfl, hp, by omega, ?_⟩
      refine ⟨_, v_mspellNumber l, by decide, _, _, _, _, _, _, _, _, _, _, _, _, _, _, _, _, _, _, _, _, _, _, _, _, _, _, _, _, 0, 0, 0, w, _, M.2.1 4 p (1 + k), rfl, rfl, hc.1, hc.2, hw, by omega, ?_⟩
      exact ih (k + 1) _ _ (by omega) (by omega) (zn_inc _) rfl
  refine AW.go (bs := b_Mod_spellPost) [37] 60 t_Mod_spellPost ?_
  refine ⟨_, v_mspellPart l, by decide, _, _, _, _, _, _, _, _, _, _, _, _, _, _, _, _, _, _, _, _, _, _, _, _, _, _, _, _, 0, 0, 0, w, cs, 12, rfl, rfl, by decide, hw, by omega, ?_⟩
  refine ⟨_, v_mupper l, by decide, _, _, _, _, _, _, _, _, _, _, _, _, _, _, _, _, _, _, _, _, _, _, _, _, _, _, _, _, _, _, _, M, rfl, hN, hO, p, rfl, hp, ?_⟩
  have hu : upM M p = if M.2.1 4 p 0 = -2 then -1 else M.2.1 4 p 0 := by
    unfold upM mVal
    by_cases e : M.2.1 4 p 0 = -2
    · rw [if_pos ⟨rfl, rfl, e⟩, if_pos e]
    · rw [if_neg (fun q => e q.2.2), if_neg e]
  have hur : -1 ≤ upM M p ∧ upM M p ≤ 12 := by rw [hu]; split <;> omega
  refine And.symm (And.intro (fun h => ?_) (fun h => ?_))
  · rw [zn_m, zc_ne (by omega) (by omega) (by omega) (by omega), Classical.not_not] at h
    have e : M.2.1 4 p 0 = -2 := by
      rw [hu] at h
      by_cases e : M.2.1 4 p 0 = -2
      · exact e
      · rw [if_neg e] at h; omega
    refine ⟨_, v_mspellWord l, by decide, _, _, _, _, _, _, _, _, _, _, _, _, _, _, _, _, _, _, _, _, _, _, _, _, _, _, _, _, 0, 0, 0, w, _, 1, rfl, rfl, by decide, hw, by omega, ?_⟩
    exact loop _ 0 _ _ rfl (by omega) rfl (by show _ = sepL cs 12 ++ numL (M.2.1 4 p 0); rw [e, ← numL_top])
  · rw [zn_m, zc_ne (by omega) (by omega) (by omega) (by omega)] at h
    have e : upM M p = M.2.1 4 p 0 := by
      rw [hu]; rw [hu] at h
      by_cases e : M.2.1 4 p 0 = -2
      · rw [if_pos e] at h; omega
      · rw [if_neg e]
    refine ⟨_, v_mupper l, by decide, _, _, _, _, _, _, _, _, _, _, _, _, _, _, _, _, _, _, _, _, _, _, _, _, _, _, _, _, _, _, _, M, rfl, hN, hO, p, rfl, hp, ?_⟩
    refine ⟨_, v_mspellNumber l, by decide, _, _, _, _, _, _, _, _, _, _, _, _, _, _, _, _, _, _, _, _, _, _, _, _, _, _, _, _, 0, 0, 0, w, _, upM M p, rfl, rfl, by omega, by omega, hw, by omega, ?_⟩
    exact loop _ 0 _ _ rfl (by omega) rfl (by show _ = sepL cs 12 ++ numL (M.2.1 4 p 0); rw [e])
def sp_mspellEntry : Sp := (6, 0, 0, pMd, fun as σ K => ∃ (now was kept isk ln sp ls ld tb rd : Nat → Int32) (und gon lef ak vn dy asd lma lim rea sts apr tz spo wro num nuA stl spe wan fou : Int32) (w : Int) (cs : List Nat) (M : Od) (d k : Nat), as = [.ref 0, .int (iI (d : Int)), .int (iI (k : Int))] ∧ σ = (wMd now was kept isk ln sp ls ld tb rd und gon lef ak vn dy asd lma lim rea sts apr tz spo wro num nuA stl (iI ((cs).length : Int)) (iI w) (iI (fnd (cs) w))) ∧ RM now M ∧ OKM M ∧ d < 4 ∧ k < M.1 d ∧ ir w ∧ cs.length < 100000 ∧ K none (some (wMd now was kept isk ln sp ls ld tb rd und gon lef ak vn dy asd lma lim rea sts apr tz spo wro num nuA stl (iI ((colsF M d k (oW d) (sepL cs (wrd d))).length : Int)) (iI w) (iI (fnd (colsF M d k (oW d) (sepL cs (wrd d))) w)))))
set_option maxRecDepth 20000 in
theorem v_mspellEntry (l : Launch) : z_V l 268 sp_mspellEntry := by
  refine z_V.ofP (by decide +kernel) ?_
  rintro as σ K Post ⟨now, was, kept, isk, ln, sp, ls, ld, tb, rd, und, gon, lef, ak, vn, dy, asd, lma, lim, rea, sts, apr, tz, spo, wro, num, nuA, stl, spe, wan, fou, w, cs, M, d, k, rfl, rfl, hN, hO, hd, hk, hw, hl, hK⟩ hP1 hP0
  have b1 := sepL_len cs (wrd d)
  have hW := oW_le d
  have loop : ∀ (n c : Nat) (x : Int32) (cs' : List Nat), n = oW d - c → c ≤ oW d → x = iI (c : Int) → cs' = colsF M d k c (sepL cs (wrd d)) →
      AW l 268 6 0 0 11 none Post 10 [some (.ref 0), some (.int (iI (d : Int))), some (.int (iI (k : Int))), some (.int x)] [] (wMd now was kept isk ln sp ls ld tb rd und gon lef ak vn dy asd lma lim rea sts apr tz spo wro num nuA stl (iI ((cs').length : Int)) (iI w) (iI (fnd (cs') w))) 0 0 := by
    intro n
    induction n with
    | zero =>
      intro c x cs' hn hc hx hcs
      subst hx; subst hcs
      have : c = oW d := by omega
      subst this
      refine AW.go (bs := b_Mod_spellEntry) [10] 60 t_Mod_spellEntry ?_
      refine ⟨_, v_mlongOf l, by decide, rfl, d, rfl, hd, ?_⟩
      refine And.intro (fun h => ?_) (fun h => ?_)
      · exact hP1 _ _ hK
      · exfalso; rw [zc_ge (by omega) (by omega) (by omega) (by omega)] at h; omega
    | succ n ih =>
      intro c x cs' hn hc hx hcs
      subst hx; subst hcs
      have b2 := colsF_len M d k (sepL cs (wrd d)) c
      have hr := cell_rng hO (show d < 5 by omega) hk (show c < oW d by omega)
      have hr0 := hr.2.2 hd
      refine AW.go (bs := b_Mod_spellEntry) [10] 60 t_Mod_spellEntry ?_
      refine ⟨_, v_mlongOf l, by decide, rfl, d, rfl, hd, ?_⟩
      refine And.intro (fun h => ?_) (fun h => ?_)
      · exfalso; rw [zc_ge (by omega) (by omega) (by omega) (by omega)] at h; omega
      refine ⟨_, v_mentryOf l, by decide, _, _, _, _, _, _, _, _, _, _, _, _, _, _, _, _, _, _, _, _, _, _, _, _, _, _, _, _, _, _, _, M, rfl, hN, hO, d, k, c, rfl, hd, hk, by omega, ?_⟩
      refine ⟨_, v_mspellNumber l, by decide, _, _, _, _, _, _, _, _, _, _, _, _, _, _, _, _, _, _, _, _, _, _, _, _, _, _, _, _, 0, 0, 0, w, _, M.2.1 d k c, rfl, rfl, hr0, hr.2.1, hw, by omega, ?_⟩
      exact ih (c + 1) _ _ (by omega) (by omega) (zn_inc _) rfl
  rcases d4 hd with rfl | rfl | rfl | rfl <;>
  · refine AW.go (bs := b_Mod_spellEntry) [10] 60 t_Mod_spellEntry ?_
    refine ⟨_, v_mentryWord l, by decide, _, rfl, hd, rfl, ?_⟩
    refine ⟨_, v_mspellPart l, by decide, _, _, _, _, _, _, _, _, _, _, _, _, _, _, _, _, _, _, _, _, _, _, _, _, _, _, _, _, 0, 0, 0, w, cs, _, rfl, rfl, by decide, hw, by omega, ?_⟩
    exact loop _ 0 _ _ rfl (by omega) rfl rfl
def sp_mspellSet : Sp := (6, 0, 0, pMd, fun as σ K => ∃ (now was kept isk ln sp ls ld tb rd : Nat → Int32) (und gon lef ak vn dy asd lma lim rea sts apr tz spo wro num nuA stl spe wan fou : Int32) (w : Int) (cs : List Nat) (M : Od) (d : Nat), as = [.ref 0, .int (iI (d : Int))] ∧ σ = (wMd now was kept isk ln sp ls ld tb rd und gon lef ak vn dy asd lma lim rea sts apr tz spo wro num nuA stl (iI ((cs).length : Int)) (iI w) (iI (fnd (cs) w))) ∧ RM now M ∧ OKM M ∧ d < 3 ∧ ir w ∧ cs.length < 100000 ∧ K none (some (wMd now was kept isk ln sp ls ld tb rd und gon lef ak vn dy asd lma lim rea sts apr tz spo wro num nuA stl (iI ((if M.2.2 d = d then cs else sepL cs (wrd (6 + d)) ++ numL (M.2.2 d : Nat)).length : Int)) (iI w) (iI (fnd (if M.2.2 d = d then cs else sepL cs (wrd (6 + d)) ++ numL (M.2.2 d : Nat)) w)))))
set_option maxRecDepth 20000 in
theorem v_mspellSet (l : Launch) : z_V l 269 sp_mspellSet := by
  refine z_V.ofP (by decide +kernel) ?_
  rintro as σ K Post ⟨now, was, kept, isk, ln, sp, ls, ld, tb, rd, und, gon, lef, ak, vn, dy, asd, lma, lim, rea, sts, apr, tz, spo, wro, num, nuA, stl, spe, wan, fou, w, cs, M, d, rfl, rfl, hN, hO, hd, hw, hl, hK⟩ hP1 hP0
  have b1 := sepL_len cs (wrd (6 + d))
  have e5 : z_nn 5 0 + iI (d : Int) = iI ((5 + d : Nat) : Int) := by rw [zn_i, iI_add]; rfl
  have hn := hN.2.2 d hd
  have hv : M.2.2 d ≤ 99 := by
    have := hO.2.2.2.2.2.2
    rcases d3 hd with rfl | rfl | rfl <;> omega
  rcases d3 hd with rfl | rfl | rfl <;>
  · refine AW.go (bs := b_Mod_spellSet) [] 60 t_Mod_spellSet ?_
    show _ ∧ _
    rw [e5]
    refine And.intro (zN_in (by omega) (by omega)) ?_
    show _ ∧ _
    rw [zN_cl (by omega), hn]
    refine And.symm (And.intro (fun h => ?_) (fun h => ?_))
    · rw [zc_ne (by omega) (by omega) (by omega) (by omega), Classical.not_not] at h
      rw [if_pos (by omega)] at hK
      exact hP1 _ _ hK
    rw [zc_ne (by omega) (by omega) (by omega) (by omega)] at h
    rw [if_neg (by omega)] at hK
    refine ⟨_, v_msetWord l, by decide, _, rfl, hd, rfl, ?_⟩
    refine ⟨_, v_mspellPart l, by decide, _, _, _, _, _, _, _, _, _, _, _, _, _, _, _, _, _, _, _, _, _, _, _, _, _, _, _, _, 0, 0, 0, w, cs, _, rfl, rfl, by decide, hw, by omega, ?_⟩
    show _ ∧ _
    rw [e5]
    refine And.intro (zN_in (by omega) (by omega)) ?_
    show ∃ sp : Sp, _
    rw [zN_cl (by omega), hn]
    refine ⟨_, v_mspellNumber l, by decide, _, _, _, _, _, _, _, _, _, _, _, _, _, _, _, _, _, _, _, _, _, _, _, _, _, _, _, _, 0, 0, 0, w, _, _, rfl, rfl, by omega, by omega, hw, by omega, ?_⟩
    exact hP1 _ _ hK
set_option maxRecDepth 20000 in
theorem v_mletter (l : Launch) : z_V l 270 (m1 40 (qp q_letter)) := by
  refine z_V.ofP (by decide +kernel) ?_
  rintro as σ K Post ⟨S, ⟨hOS, now, was, kept, isk, ln, sp, ls, ld, tb, rd, und, gon, lef, ak, vn, dy, asd, lma, lim, rea, sts, apr, tz, spo, wro, num, nuA, stl, spe, wan, fou, rfl, hMR⟩, w, rfl, ⟨w1, w2⟩, hK⟩ hP1 hP0
  obtain ⟨hN, h2_, rfl, h4_, h5_, h6_, h7_, rfl, rfl, rfl, h11_⟩ := id hMR
  have hO := hOS.1
  have hx4 := hO.2.2.2.2.2.2.2.2.2 4 (by omega)
  rw [x_4] at hx4
  have hx5 := hO.2.2.2.2.2.2.2.2.2 5 (by omega)
  rw [x_5] at hx5
  unfold qp at hK
  simp only [] at hK
  have b0 := rowsF_len S.1 4 [] (S.1.1 4)
  simp only [List.length_nil] at b0
  have b4 := entsF_len hO (rowsF S.1 4 (S.1.1 4) []) 4 (by omega)
  refine AW.go (bs := b_Mod_letter) [25, 46, 53, 82] 60 t_Mod_letter ?_
  refine And.symm (And.intro (fun h => ?_) (fun h => ?_))
  · rw [zn_m, zc_ge w1 w2 (by omega) (by omega)] at h
    unfold q_letter at hK
    rw [if_pos (by omega)] at hK
    exact hP1 _ _ (hK _ (isMd.mk hOS hMR))
  rw [zn_m, zc_ge w1 w2 (by omega) (by omega)] at h
  have hw1 : ¬ w < -1 := by omega
  have sets : ∀ (n i : Nat) (x : Int32) (v3 : Option Value) (cs' : List Nat), n = 3 - i → i ≤ 3 → x = iI (i : Int) → cs' = setsF S.1 i (entsF S.1 4 (rowsF S.1 4 (S.1.1 4) [])) →
      AW l 270 40 0 0 11 none Post 82 [some (.ref 0), some (.int (iI w)), some (.int x), v3] [] (wMd now was kept isk ln sp ls ld tb rd (iI S.2.1.length) (iI (-1)) (iI (-1)) ak vn dy asd lma lim rea sts apr (iI S.2.2.2.1) spo wro num nuA stl (iI (cs'.length : Int)) (iI w) (iI (fnd cs' w))) 0 0 := by
    intro n
    induction n with
    | zero =>
      intro i x v3 cs' hn hi hx hcs
      subst hx; subst hcs
      have ei : i = 3 := by omega
      subst ei
      refine AW.go (bs := b_Mod_letter) [82] 60 t_Mod_letter ?_
      refine And.intro (fun _ => ?_) (fun h => absurd (show z_cond .ge (iI ((3 : Nat) : Int)) (z_nn 3 0) by first | decide | (rw [zd_iff]; decide)) h)
      unfold q_letter at hK
      rw [if_neg hw1] at hK
      refine And.intro (fun h => ?_) (fun h => ?_)
      · rw [zn_m, zc_ne w1 w2 (by omega) (by omega)] at h
        rw [if_neg (by omega)] at hK
        exact hP1 _ _ (hK _ (isMd.mk hOS hMR))
      · rw [zn_m, zc_ne w1 w2 (by omega) (by omega), Classical.not_not] at h
        rw [if_pos (by omega)] at hK
        exact hP1 _ _ (hK _ (isMd.mk hOS hMR))
    | succ n ih =>
      intro i x v3 cs' hn hi hx hcs
      subst hx; subst hcs
      have b2 := setsF_len S.1 (entsF S.1 4 (rowsF S.1 4 (S.1.1 4) [])) i
      refine AW.go (bs := b_Mod_letter) [82] 60 t_Mod_letter ?_
      refine And.intro (fun h => ?_) (fun _ => ?_)
      · exfalso; rw [zn_i, zc_ge (by omega) (by omega) (by omega) (by omega)] at h; omega
      refine ⟨_, v_mspellSet l, by decide, _, _, _, _, _, _, _, _, _, _, _, _, _, _, _, _, _, _, _, _, _, _, _, _, _, _, _, _, 0, 0, 0, w, _, S.1, i, rfl, rfl, hN, hO, by omega, ⟨w1, w2⟩, by omega, ?_⟩
      exact ih (i + 1) _ _ _ (by omega) (by omega) (zn_inc _) rfl
  have ents : ∀ (n d : Nat) (x : Int32) (v3 : Option Value) (cs' : List Nat), n = 4 - d → d ≤ 4 → x = iI (d : Int) → cs' = entsF S.1 d (rowsF S.1 4 (S.1.1 4) []) →
      AW l 270 40 0 0 11 none Post 46 [some (.ref 0), some (.int (iI w)), some (.int x), v3] [] (wMd now was kept isk ln sp ls ld tb rd (iI S.2.1.length) (iI (-1)) (iI (-1)) ak vn dy asd lma lim rea sts apr (iI S.2.2.2.1) spo wro num nuA stl (iI (cs'.length : Int)) (iI w) (iI (fnd cs' w))) 0 0 := by
    intro n
    induction n with
    | zero =>
      intro d x v3 cs' hn hd hx hcs
      subst hx; subst hcs
      have ed : d = 4 := by omega
      subst ed
      refine AW.go (bs := b_Mod_letter) [46, 82] 60 t_Mod_letter ?_
      refine And.intro (fun _ => ?_) (fun h => absurd (show z_cond .ge (iI ((4 : Nat) : Int)) (z_nn 4 0) by first | decide | (rw [zd_iff]; decide)) h)
      exact sets _ 0 _ _ _ rfl (by omega) rfl rfl
    | succ n ih =>
      intro d x v3 cs' hn hd hx hcs
      subst hx; subst hcs
      have b1 := entsF_len hO (rowsF S.1 4 (S.1.1 4) []) d (by omega)
      have hxd := hO.2.2.2.2.2.2.2.2.2 d (by omega)
      have hxd2 := oX_le d
      have rows : ∀ (q e : Nat) (y : Int32) (cs'' : List Nat), q = S.1.1 d - e → e ≤ S.1.1 d → y = iI (e : Int) → cs'' = rowsF S.1 d e (entsF S.1 d (rowsF S.1 4 (S.1.1 4) [])) →
          AW l 270 40 0 0 11 none Post 53 [some (.ref 0), some (.int (iI w)), some (.int (iI (d : Int))), some (.int y)] [] (wMd now was kept isk ln sp ls ld tb rd (iI S.2.1.length) (iI (-1)) (iI (-1)) ak vn dy asd lma lim rea sts apr (iI S.2.2.2.1) spo wro num nuA stl (iI (cs''.length : Int)) (iI w) (iI (fnd cs'' w))) 0 0 := by
        intro q
        induction q with
        | zero =>
          intro e y cs'' hq he hy hcs
          subst hy; subst hcs
          have ee : e = S.1.1 d := by omega
          subst ee
          refine AW.go (bs := b_Mod_letter) [46, 53] 60 t_Mod_letter ?_
          refine ⟨_, v_mmany l, by decide, _, _, _, _, _, _, _, _, _, _, _, _, _, _, _, _, _, _, _, _, _, _, _, _, _, _, _, _, _, _, _, S.1, rfl, hN, hO, d, rfl, by omega, ?_⟩
          refine And.intro (fun _ => ?_) (fun h => ?_)
          · exact ih (d + 1) _ _ _ (by omega) (by omega) (zn_inc _) rfl
          · exfalso; rw [zc_ge (by omega) (by omega) (by omega) (by omega)] at h; omega
        | succ q ihq =>
          intro e y cs'' hq he hy hcs
          subst hy; subst hcs
          have b2 := rowsF_len S.1 d (entsF S.1 d (rowsF S.1 4 (S.1.1 4) [])) e
          refine AW.go (bs := b_Mod_letter) [46, 53] 60 t_Mod_letter ?_
          refine ⟨_, v_mmany l, by decide, _, _, _, _, _, _, _, _, _, _, _, _, _, _, _, _, _, _, _, _, _, _, _, _, _, _, _, _, _, _, _, S.1, rfl, hN, hO, d, rfl, by omega, ?_⟩
          refine And.intro (fun h => ?_) (fun _ => ?_)
          · exfalso; rw [zc_ge (by omega) (by omega) (by omega) (by omega)] at h; omega
          refine ⟨_, v_mspellEntry l, by decide, _, _, _, _, _, _, _, _, _, _, _, _, _, _, _, _, _, _, _, _, _, _, _, _, _, _, _, _, 0, 0, 0, w, _, S.1, d, e, rfl, rfl, hN, hO, by omega, by omega, ⟨w1, w2⟩, by omega, ?_⟩
          exact ihq (e + 1) _ _ (by omega) (by omega) (zn_inc _) rfl
      refine AW.go (bs := b_Mod_letter) [46, 53] 60 t_Mod_letter ?_
      refine And.intro (fun h => ?_) (fun _ => ?_)
      · exfalso; rw [zn_i, zc_ge (by omega) (by omega) (by omega) (by omega)] at h; omega
      exact rows _ 0 _ _ rfl (by omega) rfl rfl
  have posts : ∀ (n p : Nat) (x fo sp0 : Int32) (cs' : List Nat), n = S.1.1 4 - p → p ≤ S.1.1 4 → x = iI (p : Int) → cs' = rowsF S.1 4 p [] → sp0 = iI (cs'.length : Int) → fo = iI (fnd cs' w) →
      AW l 270 40 0 0 11 none Post 25 [some (.ref 0), some (.int (iI w)), some (.int x), none] [] (wMd now was kept isk ln sp ls ld tb rd (iI S.2.1.length) (iI (-1)) (iI (-1)) ak vn dy asd lma lim rea sts apr (iI S.2.2.2.1) spo wro num nuA stl sp0 (iI w) fo) 0 0 := by
    intro n
    induction n with
    | zero =>
      intro p x fo sp0 cs' hn hp hx hcs h0 h1
      subst h0; subst h1; subst hx; subst hcs
      have ep : p = S.1.1 4 := by omega
      subst ep
      refine AW.go (bs := b_Mod_letter) [25, 46] 60 t_Mod_letter ?_
      refine ⟨_, v_mposts l, by decide, _, _, _, _, _, _, _, _, _, _, _, _, _, _, _, _, _, _, _, _, _, _, _, _, _, _, _, _, _, _, _, S.1, rfl, hN, hO, rfl, ?_⟩
      refine And.intro (fun _ => ?_) (fun h => ?_)
      · exact ents _ 0 _ _ _ rfl (by omega) rfl rfl
      · exfalso; rw [zc_ge (by omega) (by omega) (by omega) (by omega)] at h; omega
    | succ n ih =>
      intro p x fo sp0 cs' hn hp hx hcs h0 h1
      subst h0; subst h1; subst hx; subst hcs
      have b2 := rowsF_len S.1 4 [] p
      simp only [List.length_nil] at b2
      refine AW.go (bs := b_Mod_letter) [25, 46] 60 t_Mod_letter ?_
      refine ⟨_, v_mposts l, by decide, _, _, _, _, _, _, _, _, _, _, _, _, _, _, _, _, _, _, _, _, _, _, _, _, _, _, _, _, _, _, _, S.1, rfl, hN, hO, rfl, ?_⟩
      refine And.intro (fun h => ?_) (fun _ => ?_)
      · exfalso; rw [zc_ge (by omega) (by omega) (by omega) (by omega)] at h; omega
      refine ⟨_, v_mspellPost l, by decide, _, _, _, _, _, _, _, _, _, _, _, _, _, _, _, _, _, _, _, _, _, _, _, _, _, _, _, _, 0, 0, 0, w, _, S.1, p, rfl, rfl, hN, hO, by omega, ⟨w1, w2⟩, by omega, ?_⟩
      exact ih (p + 1) _ _ _ _ (by omega) (by omega) (zn_inc _) rfl rfl rfl
  exact posts _ 0 _ _ _ _ rfl (by omega) rfl rfl rfl (by show _ = iI (fnd [] w); rw [fnd_nil]; rfl)
