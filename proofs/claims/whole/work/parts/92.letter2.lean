/-! the order as a text -/
def colsF (M : Od) (d k : Nat) : Nat → List Nat → List Nat
  | 0, cs => cs
  | c + 1, cs => colsF M d k c cs ++ numL (M.2.1 d k c)
def rowsF (M : Od) (d : Nat) : Nat → List Nat → List Nat
  | 0, cs => cs
  | k + 1, cs => colsF M d k (oW d) (sepL (rowsF M d k cs) (wrd d))
def setsF (M : Od) : Nat → List Nat → List Nat
  | 0, cs => cs
  | w + 1, cs => if M.2.2 w = w then setsF M w cs else sepL (setsF M w cs) (wrd (6 + w)) ++ numL (M.2.2 w : Nat)
def entsF (M : Od) : Nat → List Nat → List Nat
  | 0, cs => cs
  | d + 1, cs => rowsF M d (M.1 d) (entsF M d cs)
def ltF (M : Od) : List Nat := setsF M 3 (entsF M 4 (rowsF M 4 (M.1 4) []))
def q_letter (M : Od) (k : Int) : Int := if k < -1 then -1 else if k = -1 then ((ltF M).length : Int) else fnd (ltF M) k
theorem colsF_len (M : Od) (d k : Nat) (cs : List Nat) : ∀ c, (colsF M d k c cs).length ≤ cs.length + 5 * c
  | 0 => by simp [colsF]
  | c + 1 => by
    have h1 := colsF_len M d k cs c
    have h2 := numL_len (M.2.1 d k c)
    rw [colsF, List.length_append]; omega
theorem oW_le (d : Nat) : oW d ≤ 7 := by
  by_cases h : d < 6
  · have key : ∀ d, d < 6 → oW d ≤ 7 := by decide +kernel
    exact key d h
  · unfold oW; rw [List.getD_eq_getElem?_getD, List.getElem?_eq_none (by show 6 ≤ d; omega)]; exact Nat.zero_le _
theorem rowsF_len (M : Od) (d : Nat) (cs : List Nat) : ∀ k, (rowsF M d k cs).length ≤ cs.length + 42 * k
  | 0 => by simp [rowsF]
  | k + 1 => by
    have h1 := rowsF_len M d cs k
    have h2 := sepL_len (rowsF M d k cs) (wrd d)
    have h3 := colsF_len M d k (sepL (rowsF M d k cs) (wrd d)) (oW d)
    have h4 := oW_le d
    rw [rowsF]; omega
theorem setsF_len (M : Od) (cs : List Nat) : ∀ w, (setsF M w cs).length ≤ cs.length + 12 * w
  | 0 => by simp [setsF]
  | w + 1 => by
    have h1 := setsF_len M cs w
    have h2 := sepL_len (setsF M w cs) (wrd (6 + w))
    have h3 := numL_len (M.2.2 w : Nat)
    rw [setsF]
    split
    · omega
    · rw [List.length_append]; omega
theorem entsF_len {M : Od} (hO : OKM M) (cs : List Nat) : ∀ d, d ≤ 4 → (entsF M d cs).length ≤ cs.length + 1680 * d
  | 0, _ => by simp [entsF]
  | d + 1, h => by
    have h1 := entsF_len hO cs d (by omega)
    have h2 := rowsF_len M d (entsF M d cs) (M.1 d)
    have h3 := hO.2.2.2.2.2.2.2.2.2 d (by omega)
    have h4 := oX_le d
    rw [entsF]; omega
/-- the numbers that are written -/
theorem cell_rng {M : Od} (hO : OKM M) {d k c : Nat} (hd : d < 5) (hk : k < M.1 d) (hc : c < oW d) : -2 ≤ M.2.1 d k c ∧ M.2.1 d k c ≤ 9999 ∧ (d < 4 → 0 ≤ M.2.1 d k c) := by
  have h4 := hO.2.2.2.2.2.2.2.2.2 4 (by omega)
  rw [x_4] at h4
  have cs : d = 0 ∨ d = 1 ∨ d = 2 ∨ d = 3 ∨ d = 4 := by omega
  rcases cs with rfl | rfl | rfl | rfl | rfl
  · rw [w_0] at hc
    have h := hO.1 k hk
    have : c = 0 ∨ c = 1 ∨ c = 2 ∨ c = 3 := by omega
    rcases this with rfl | rfl | rfl | rfl <;> omega
  · rw [w_1] at hc
    have h := hO.2.1 k hk
    have : c = 0 ∨ c = 1 ∨ c = 2 := by omega
    rcases this with rfl | rfl | rfl <;> omega
  · rw [w_2] at hc
    have h := hO.2.2.1 k hk
    have : c = 0 ∨ c = 1 ∨ c = 2 ∨ c = 3 ∨ c = 4 := by omega
    rcases this with rfl | rfl | rfl | rfl | rfl <;> omega
  · rw [w_3] at hc
    have h := hO.2.2.2.1 k hk
    have : c = 0 ∨ c = 1 := by omega
    rcases this with rfl | rfl <;> omega
  · rw [w_4] at hc
    have h := hO.2.2.2.2.1 k hk
    by_cases e : c = 0
    · subst e; have := h.1; omega
    · have := h.2 c (by omega) hc; omega
def wLR (w : Int) (cs : List Nat) (f s t : Nat → Int32) : List AE := [.inr (.inr (1, [.int (iI w), .int (iI (cs.length : Int)), .int (iI (fnd cs w))])), .inr (.inr (6, [.ref 2, .ref 3, .ref 4])), .inl (0, 648, f), .inl (0, 6, s), .inl (0, 3, t)]
def pLR : List (Nat × List Nat) := [(0, []), (1, []), (1, [0]), (1, [1]), (1, [2])]
def sp_tellRows : Sp := (6, 0, 0, pLR, fun as σ K => ∃ (w : Int) (cs : List Nat) (f s t : Nat → Int32) (M : Od) (d : Nat), as = [.ref 0, .ref 1, .int (iI (d : Int))] ∧ σ = wLR w cs f s t ∧ RS f s t M ∧ OKM M ∧ d < 5 ∧ ir w ∧ cs.length < 100000 ∧ K none (some (wLR w (rowsF M d (M.1 d) cs) f s t)))
set_option maxRecDepth 20000 in
theorem v_tellRows (l : Launch) : z_V l 7 sp_tellRows := by
  refine z_V.ofP (by decide +kernel) ?_
  rintro as σ K Post ⟨w, cs, f, s, t, M, d, rfl, rfl, hR, hO, hd, hw, hl, hK⟩ hP1 hP0
  have hs := hR.size d (by omega)
  have hm := hR.max40 d (by omega)
  have hW := oW_le d
  have inner : ∀ (k : Nat), k < M.1 d → (∀ v4 : Option Value, AW l 7 6 0 0 5 none Post 2 [some (.ref 0), some (.ref 1), some (.int (iI (d : Int))), some (.int (iI (k : Int) + z_nn 1 0)), v4] [] (wLR w (rowsF M d (k + 1) cs) f s t) 0 0) →
      ∀ (n c : Nat) (x : Int32) (cs' : List Nat), n = oW d - c → c ≤ oW d → x = iI (c : Int) → cs' = colsF M d k c (sepL (rowsF M d k cs) (wrd d)) →
      AW l 7 6 0 0 5 none Post 20 [some (.ref 0), some (.ref 1), some (.int (iI (d : Int))), some (.int (iI (k : Int))), some (.int x)] [] (wLR w cs' f s t) 0 0 := by
    intro k hk next n
    have b1 := rowsF_len M d cs k
    have b2 := sepL_len (rowsF M d k cs) (wrd d)
    have e2 : nI ([4, 3, 5, 2, 4, 7].getD (iI (d : Int)).toNatClampNeg 0) = iI ((oW d : Nat) : Int) := z_tab _ (by omega)
    induction n with
    | zero =>
      intro c x cs' hn hc hx hcs
      subst hx; subst hcs
      refine AW.go (bs := b_Letter_tellRows) [2, 20] 60 t_Letter_tellRows ?_
      refine And.intro (zN_in (n := 6) (by omega) (by omega)) ?_
      refine And.intro (fun h => ?_) (fun h => ?_)
      · have ec : c = oW d := by omega
        subst ec
        exact next _
      · exfalso
        rw [e2, zc_ge (by omega) (by omega) (by omega) (by omega)] at h; omega
    | succ n ih =>
      intro c x cs' hn hc hx hcs
      subst hx; subst hcs
      have b3 := colsF_len M d k (sepL (rowsF M d k cs) (wrd d)) c
      refine AW.go (bs := b_Letter_tellRows) [2, 20] 60 t_Letter_tellRows ?_
      refine And.intro (zN_in (n := 6) (by omega) (by omega)) ?_
      refine And.intro (fun h => ?_) (fun h => ?_)
      · exfalso
        rw [e2, zc_ge (by omega) (by omega) (by omega) (by omega)] at h; omega
      · have hr := cell_rng hO hd hk (show c < oW d by omega)
        refine ⟨_, v_cell l, by decide, f, s, t, rfl, M, d, k, c, rfl, hR, by omega, hk, by omega, ?_⟩
        refine ⟨_, v_wnum l, by decide, w, _, M.2.1 d k c, rfl, rfl, hr.1, hr.2.1, hw, by omega, ?_⟩
        exact ih (c + 1) _ _ (by omega) (by omega) (zn_inc _) rfl
  have outer : ∀ (n k : Nat) (x : Int32) (v4 : Option Value) (cs' : List Nat), n = M.1 d - k → k ≤ M.1 d → x = iI (k : Int) → cs' = rowsF M d k cs →
      AW l 7 6 0 0 5 none Post 2 [some (.ref 0), some (.ref 1), some (.int (iI (d : Int))), some (.int x), v4] [] (wLR w cs' f s t) 0 0 := by
    intro n
    induction n with
    | zero =>
      intro k x v4 cs' hn hk hx hcs
      subst hx; subst hcs
      refine AW.go (bs := b_Letter_tellRows) [2, 20] 60 t_Letter_tellRows ?_
      refine And.intro (zN_in (n := 6) (by omega) (by omega)) ?_
      refine And.intro (fun h => ?_) (fun h => ?_)
      · have ek : k = M.1 d := by omega
        subst ek
        exact hP1 _ _ hK
      · exfalso
        rw [zN_cl (by omega), hs, zc_ge (by omega) (by omega) (by omega) (by omega)] at h; omega
    | succ n ih =>
      intro k x v4 cs' hn hk hx hcs
      subst hx; subst hcs
      have b1 := rowsF_len M d cs k
      refine AW.go (bs := b_Letter_tellRows) [2, 20] 60 t_Letter_tellRows ?_
      refine And.intro (zN_in (n := 6) (by omega) (by omega)) ?_
      refine And.intro (fun h => ?_) (fun h => ?_)
      · exfalso
        rw [zN_cl (by omega), hs, zc_ge (by omega) (by omega) (by omega) (by omega)] at h; omega
      · refine ⟨_, v_beginPart l, by decide, w, _, d, rfl, rfl, by omega, hw, by omega, ?_⟩
        exact inner k (by omega) (fun v4 => ih (k + 1) _ _ _ (by omega) (by omega) (zn_inc _) rfl) _ 0 _ _ rfl (by omega) rfl rfl
  refine AW.go (bs := b_Letter_tellRows) [2, 20] 60 t_Letter_tellRows ?_
  exact outer _ 0 _ _ _ rfl (by omega) rfl rfl
def wL3 (a b c : Int32) (f s t : Nat → Int32) : List AE := [.inr (.inr (1, [.int a, .int b, .int c])), .inr (.inr (6, [.ref 2, .ref 3, .ref 4])), .inl (0, 648, f), .inl (0, 6, s), .inl (0, 3, t)]
def sp_byteOf : Sp := (7, 0, 0, pLR, fun as σ K => ∃ (a b c : Int32) (f s t : Nat → Int32) (M : Od) (k : Int), as = [.ref 0, .ref 1, .int (iI k)] ∧ σ = wL3 a b c f s t ∧ RS f s t M ∧ OKM M ∧ ir k ∧ -1 ≤ k ∧ ∀ a b c, K (some (.int (iI (q_letter M k)))) (some (wL3 a b c f s t)))
set_option maxRecDepth 20000 in
theorem v_byteOf (l : Launch) : z_V l 6 sp_byteOf := by
  refine z_V.ofP (by decide +kernel) ?_
  rintro as σ K Post ⟨a, b, c, f, s, t, M, k, rfl, rfl, hR, hO, ⟨k1, k2⟩, k0, hK⟩ hP1 hP0
  have hx4 := hO.2.2.2.2.2.2.2.2.2 4 (by omega)
  rw [x_4] at hx4
  have b0 := rowsF_len M 4 [] (M.1 4)
  simp only [List.length_nil] at b0
  have setl : ∀ (n i : Nat) (x : Int32) (cs' : List Nat), n = 3 - i → i ≤ 3 → x = iI (i : Int) → cs' = setsF M i (entsF M 4 (rowsF M 4 (M.1 4) [])) →
      AW l 6 7 0 0 5 none Post 43 [some (.ref 0), some (.ref 1), some (.int (iI k)), some (.int x)] [] (wLR k cs' f s t) 0 0 := by
    intro n
    have b1 := entsF_len hO (rowsF M 4 (M.1 4) []) 4 (by omega)
    induction n with
    | zero =>
      intro i x cs' hn hi hx hcs
      subst hx; subst hcs
      have ei : i = 3 := by omega
      subst ei
      have b2 := setsF_len M (entsF M 4 (rowsF M 4 (M.1 4) [])) 3
      refine AW.go (bs := b_Letter_byteOf) [43] 60 t_Letter_byteOf ?_
      refine And.intro (fun _ => ?_) (fun h => absurd (show z_cond .ge (iI ((3 : Nat) : Int)) (z_nn 3 0) by first | decide | (rw [zd_iff]; decide)) h)
      unfold q_letter at hK
      rw [if_neg (by omega)] at hK
      refine And.intro (fun h => ?_) (fun h => ?_)
      · rw [zn_m, zc_ne k1 k2 (by omega) (by omega)] at h
        rw [if_neg (by omega)] at hK
        exact hP1 _ _ (hK _ _ _)
      · rw [zn_m, zc_ne k1 k2 (by omega) (by omega), Classical.not_not] at h
        rw [if_pos (by omega)] at hK
        exact hP1 _ _ (hK _ _ _)
    | succ n ih =>
      intro i x cs' hn hi hx hcs
      subst hx; subst hcs
      have b2 := setsF_len M (entsF M 4 (rowsF M 4 (M.1 4) [])) i
      have b3 := sepL_len (setsF M i (entsF M 4 (rowsF M 4 (M.1 4) []))) (wrd (6 + i))
      have ht := hR.2.2 i (by omega)
      have hv : M.2.2 i ≤ 99 := by
        have i3 : i = 0 ∨ i = 1 ∨ i = 2 := by omega
        have := hO.2.2.2.2.2.2
        rcases i3 with rfl | rfl | rfl <;> omega
      have e4 : nI ([0, 1, 2].getD (iI (i : Int)).toNatClampNeg 0) = iI (i : Int) := by
        rw [z_tab _ (by omega)]
        have i3 : i = 0 ∨ i = 1 ∨ i = 2 := by omega
        rcases i3 with rfl | rfl | rfl <;> rfl
      refine AW.go (bs := b_Letter_byteOf) [43, 80] 60 t_Letter_byteOf ?_
      have tail : ∀ cs' : List Nat, cs' = setsF M (i + 1) (entsF M 4 (rowsF M 4 (M.1 4) [])) → AW l 6 7 0 0 5 none Post 80 [some (.ref 0), some (.ref 1), some (.int (iI k)), some (.int (iI (i : Int)))] [] (wLR k cs' f s t) 0 0 := by
        intro cs' hcs
        refine AW.go (bs := b_Letter_byteOf) [43] 60 t_Letter_byteOf ?_
        exact ih (i + 1) _ _ (by omega) (by omega) (zn_inc _) hcs
      refine And.intro (fun h => ?_) (fun _ => ?_)
      · exfalso; rw [zn_i, zc_ge (by omega) (by omega) (by omega) (by omega)] at h; omega
      refine And.intro (zN_in (by omega) (by omega)) ?_
      refine And.intro (zN_in (n := 3) (by omega) (by omega)) ?_
      refine And.intro (fun h => ?_) (fun h => ?_)
      · rw [zN_cl (by omega), ht] at h
        replace h : iI ((M.2.2 i : Nat) : Int) = nI ([0, 1, 2].getD i 0) := h
        rw [show nI ([0, 1, 2].getD i 0) = iI (i : Int) from by rw [zN_cl (by omega)] at e4; exact e4, iI_inj (by omega) (by omega) (by omega) (by omega)] at h
        exact tail _ (by rw [setsF, if_pos (by omega)])
      · rw [zN_cl (by omega), ht] at h
        replace h : ¬ iI ((M.2.2 i : Nat) : Int) = nI ([0, 1, 2].getD i 0) := h
        rw [show nI ([0, 1, 2].getD i 0) = iI (i : Int) from by rw [zN_cl (by omega)] at e4; exact e4, iI_inj (by omega) (by omega) (by omega) (by omega)] at h
        have e6 : z_nn 6 0 + iI (i : Int) = iI ((6 + i : Nat) : Int) := by rw [zn_i, iI_add]; rfl
        show ∃ sp : Sp, _
        rw [e6]
        refine ⟨_, v_beginPart l, by decide, k, _, 6 + i, rfl, rfl, by omega, ⟨k1, k2⟩, by omega, ?_⟩
        refine And.intro (zN_in (by omega) (by omega)) ?_
        show ∃ sp : Sp, _
        rw [zN_cl (by omega), ht]
        refine ⟨_, v_wnum l, by decide, k, _, (M.2.2 i : Nat), rfl, rfl, by omega, by omega, ⟨k1, k2⟩, by omega, ?_⟩
        exact tail _ (by rw [setsF, if_neg (by omega)])
  have rowl : ∀ (n d : Nat) (x : Int32) (cs' : List Nat), n = 4 - d → d ≤ 4 → x = iI (d : Int) → cs' = entsF M d (rowsF M 4 (M.1 4) []) →
      AW l 6 7 0 0 5 none Post 24 [some (.ref 0), some (.ref 1), some (.int (iI k)), some (.int x)] [] (wLR k cs' f s t) 0 0 := by
    intro n
    induction n with
    | zero =>
      intro d x cs' hn hd hx hcs
      subst hx; subst hcs
      have ed : d = 4 := by omega
      subst ed
      refine AW.go (bs := b_Letter_byteOf) [24, 43] 60 t_Letter_byteOf ?_
      refine And.intro (fun _ => ?_) (fun h => absurd (show z_cond .gt (iI ((4 : Nat) : Int)) (z_nn 3 0) by first | decide | (rw [zd_iff]; decide)) h)
      exact setl _ 0 _ _ rfl (by omega) rfl rfl
    | succ n ih =>
      intro d x cs' hn hd hx hcs
      subst hx; subst hcs
      have b1 := entsF_len hO (rowsF M 4 (M.1 4) []) d (by omega)
      refine AW.go (bs := b_Letter_byteOf) [24, 43] 60 t_Letter_byteOf ?_
      refine And.intro (fun h => ?_) (fun h => ?_)
      · exfalso; rw [zn_i, zc_gt (by omega) (by omega) (by omega) (by omega)] at h; omega
      · refine ⟨_, v_tellRows l, by decide, k, _, f, s, t, M, d, rfl, rfl, hR, hO, by omega, ⟨k1, k2⟩, by omega, ?_⟩
        exact ih (d + 1) _ _ (by omega) (by omega) (zn_inc _) rfl
  refine AW.go (bs := b_Letter_byteOf) [24, 43] 60 t_Letter_byteOf ?_
  refine ⟨_, v_tellRows l, by decide, k, [], f, s, t, M, 4, rfl, by unfold wLR; rw [fnd_nil]; rfl, hR, hO, by omega, ⟨k1, k2⟩, by decide, ?_⟩
  exact rowl _ 0 _ _ rfl (by omega) rfl rfl
set_option maxRecDepth 20000 in
theorem v_letter (l : Launch) : z_V l 118 (sp1 40 (qp q_letter)) := by
  refine z_V.ofP (by decide +kernel) ?_
  rintro as σ K Post ⟨S, ⟨hOS, f, s, t, f1, s1, t1, f2, s2, t2, tb, f3, s3, t3, nu, ln, sp, ls, g, ta, pl, pf, ps, pt, fi, hz, ks, tz, ra, rf, rt, la, lb, lc, mp, mv, mk, mo, my, mw, ma, ml, ak, dy, br, ad, dp, lm, rs, len, rfl, hAR⟩, k, rfl, ⟨k1, k2⟩, hK⟩ hP1 hP0
  obtain ⟨hR, ⟨fq, rfl, hPR⟩, rfl, rfl, a5, a6, rfl, a8⟩ := id hAR
  have hO := hOS.1
  have hx4 := hO.2.2.2.2.2.2.2.2.2 4 (by omega)
  rw [x_4] at hx4
  have hx5 := hO.2.2.2.2.2.2.2.2.2 5 (by omega)
  rw [x_5] at hx5
  unfold qp at hK
  simp only [] at hK
  refine AW.go (bs := b_Appr_letter) [] 60 t_Appr_letter ?_
  refine And.symm (And.intro (fun h => ?_) (fun h => ?_))
  · rw [zn_m, zc_ge k1 k2 (by omega) (by omega)] at h
    unfold q_letter at hK
    rw [if_pos (by omega)] at hK
    exact hP1 _ _ (hK _ (isA.mk hOS hAR))
  rw [zn_m, zc_ge k1 k2 (by omega) (by omega)] at h
  refine ⟨_, v_byteOf l, by decide, la, lb, lc, f, s, t, S.1, k, rfl, rfl, hR, hO, ⟨k1, k2⟩, by omega, fun a b c => ?_⟩
  exact hP1 _ _ (hK _ (isA.mk hOS hAR))
