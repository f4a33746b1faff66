/-! the model's acts -/
def sp_mkeepsAct : Sp := (0, 0, 0, pMd, fun as σ K => ∃ (now was kept isk ln sp ls ld tb rd : Nat → Int32) (und gon lef ak vn dy asd lma lim rea sts apr tz spo wro num nuA stl spe wan fou : Int32) (M : Od) (H : List Od), as = [.ref 0] ∧ σ = (wMd now was kept isk ln sp ls ld tb rd (iI H.length) gon lef ak vn dy asd lma lim rea sts apr tz spo wro num nuA stl spe wan fou) ∧ RM now M ∧ H.length ≤ 10 ∧ (∀ (i : Nat) (M : Od), H[i]? = some M → RM (rwI was i) M) ∧
  ∀ was', (∀ (i : Nat) (M' : Od), (hisA H M)[i]? = some M' → RM (rwI was' i) M') → K none (some (wMd now was' kept isk ln sp ls ld tb rd (iI (hisA H M).length) gon lef ak vn dy asd lma lim rea sts apr tz spo wro num nuA stl spe wan fou)))
set_option maxRecDepth 20000 in
theorem v_mkeepsAct (l : Launch) : z_V l 212 sp_mkeepsAct := by
  refine z_V.ofP (by decide +kernel) ?_
  rintro as σ K Post ⟨now, was, kept, isk, ln, sp, ls, ld, tb, rd, und, gon, lef, ak, vn, dy, asd, lma, lim, rea, sts, apr, tz, spo, wro, num, nuA, stl, spe, wan, fou, M, H, rfl, rfl, hN, hH, hW, hK⟩ hP1 hP0
  have core : ∀ (H' : List Od) (was : Nat → Int32) (v1 : Option Value), H'.length ≤ 9 → (∀ (i : Nat) (M : Od), H'[i]? = some M → RM (rwI was i) M) → hisA H M = H' ++ [M] → AW l 212 0 0 0 11 none Post 52 [some (.ref 0), v1] [] (wMd now was kept isk ln sp ls ld tb rd (iI H'.length) gon lef ak vn dy asd lma lim rea sts apr tz spo wro num nuA stl spe wan fou) 0 0 := by
    intro H' was0 v1 hH' hW' eH
    have loop : ∀ (n k : Nat) (x : Int32) (was : Nat → Int32), n = 657 - k → k ≤ 657 → x = iI (k : Int) → (∀ j, j < k → was (657 * H'.length + j) = now j) → (∀ j, j < 657 * H'.length → was j = was0 j) →
        AW l 212 0 0 0 11 none Post 54 [some (.ref 0), some (.int x)] [] (wMd now was kept isk ln sp ls ld tb rd (iI H'.length) gon lef ak vn dy asd lma lim rea sts apr tz spo wro num nuA stl spe wan fou) 0 0 := by
      intro n
      induction n using Nat.strongRecOn with
      | ind n ih =>
        intro k x was hn hk e1 h1 h2
        subst e1
        refine AW.go (bs := b_Mod_keepsAct) [54] 60 t_Mod_keepsAct ?_
        refine And.intro (fun h => ?_) (fun h => ?_)
        · rw [zn_i, zc_ge (by omega) (by omega) (by omega) (by omega)] at h
          have : k = 657 := by omega
          subst this
          have el : (hisA H M).length = H'.length + 1 := by rw [eH]; simp
          have := hK was (fun i M' hi => ?_)
          · rw [el, ← zn_inc] at this
            exact hP1 _ _ this
          · rw [eH] at hi
            by_cases e : i < H'.length
            · rw [List.getElem?_append_left e] at hi
              exact (hW' i M' hi).cong (fun j hj => h2 _ (by omega))
            · rw [List.getElem?_append_right (by omega)] at hi
              have hz : i - H'.length < 1 := (List.getElem?_eq_some_iff.mp hi).1
              have : i = H'.length := by omega
              subst this
              rw [Nat.sub_self] at hi
              cases hi
              exact hN.cong (fun j hj => h1 j hj)
        rw [zn_i, zc_ge (by omega) (by omega) (by omega) (by omega)] at h
        refine And.intro (zN_in (by omega) (by omega)) ?_
        have ei : z_nn 657 0 * iI (H'.length : Int) + iI (k : Int) = iI ((657 * H'.length + k : Nat) : Int) := by rw [zn_i, iI_mul, iI_add]; rfl
        show _ ∧ _
        rw [ei, zN_cl (by omega : k < 2147483648)]
        refine And.intro (zN_in (by omega) (by omega)) ?_
        show AW _ _ _ _ _ _ _ _ _ _ _ _ _ _
        rw [zN_cl (by omega)]
        refine ih _ (by omega) (k + 1) _ _ rfl (by omega) (zn_inc k) (fun j hj => ?_) (fun j hj => ?_)
        · unfold upd
          by_cases e : j = k
          · rw [if_pos (by omega), e]
          · rw [if_neg (by omega)]; exact h1 j (by omega)
        · unfold upd; rw [if_neg (by omega)]; exact h2 j hj
    refine AW.go (bs := b_Mod_keepsAct) [54] 60 t_Mod_keepsAct ?_
    exact loop _ 0 _ _ rfl (by omega) rfl (fun j hj => by omega) (fun _ _ => rfl)
  have shift : ∀ (n k : Nat) (x : Int32) (was' : Nat → Int32), H.length = 10 → n = 6570 - k → 657 ≤ k → k ≤ 6570 → x = iI (k : Int) → (∀ j, j < k - 657 → was' j = was (j + 657)) → (∀ j, k - 657 ≤ j → was' j = was j) →
      AW l 212 0 0 0 11 none Post 13 [some (.ref 0), some (.int x)] [] (wMd now was' kept isk ln sp ls ld tb rd (iI H.length) gon lef ak vn dy asd lma lim rea sts apr tz spo wro num nuA stl spe wan fou) 0 0 := by
    intro n
    induction n using Nat.strongRecOn with
    | ind n ih =>
      intro k x was' hl hn hk0 hk e1 h1 h2
      subst e1
      refine AW.go (bs := b_Mod_keepsAct) [13, 52] 60 t_Mod_keepsAct ?_
      refine And.intro (fun h => ?_) (fun h => ?_)
      · rw [zn_i, zc_ge (by omega) (by omega) (by omega) (by omega)] at h
        have : k = 6570 := by omega
        subst this
        have e2 : iI (H.length : Int) - z_nn 1 0 = iI ((H.drop 1).length : Int) := by
          rw [zn_i, iI_sub]; congr 1; simp; omega
        show AW _ _ _ _ _ _ _ _ _ _ _ _ _ _
        rw [e2]
        refine core (H.drop 1) was' _ (by simp; omega) (fun i M' hi => ?_) (by unfold hisA; rw [if_pos hl])
        rw [List.getElem?_drop] at hi
        have hi9 : 1 + i < H.length := (List.getElem?_eq_some_iff.mp hi).1
        refine (hW (1 + i) M' hi).cong (fun j hj => ?_)
        show was' (657 * i + j) = was (657 * (1 + i) + j)
        rw [h1 _ (by omega)]
        congr 1
        omega
      rw [zn_i, zc_ge (by omega) (by omega) (by omega) (by omega)] at h
      refine And.intro (zN_in (by omega) (by omega)) ?_
      have ei : iI (k : Int) - z_nn 657 0 = iI ((k - 657 : Nat) : Int) := by rw [zn_i, iI_sub]; congr 1; omega
      show _ ∧ _
      rw [ei, zN_cl (by omega : k < 2147483648)]
      refine And.intro (zN_in (by omega) (by omega)) ?_
      show AW _ _ _ _ _ _ _ _ _ _ _ _ _ _
      rw [zN_cl (by omega)]
      refine ih _ (by omega) (k + 1) _ _ hl rfl (by omega) (by omega) (zn_inc k) (fun j hj => ?_) (fun j hj => ?_)
      · unfold upd
        by_cases e : j = k - 657
        · rw [if_pos e, h2 k (by omega), e]; congr 1; omega
        · rw [if_neg e]; exact h1 j (by omega)
      · unfold upd; rw [if_neg (by omega)]; exact h2 j (by omega)
  refine AW.go (bs := b_Mod_keepsAct) [13, 52] 60 t_Mod_keepsAct ?_
  refine And.intro (fun h => ?_) (fun h => ?_)
  · rw [zn_i, zc_ne (by omega) (by omega) (by omega) (by omega)] at h
    exact core H was _ (by omega) hW (by unfold hisA; rw [if_neg (by omega)])
  · rw [zn_i, zc_ne (by omega) (by omega) (by omega) (by omega), Classical.not_not] at h
    exact shift _ 657 _ _ (by omega) rfl (by omega) (by omega) rfl (fun j hj => by omega) (fun _ _ => rfl)
def sp_mcomes : Sp := (1, 0, 0, pMd, fun as σ K => ∃ (now was kept isk ln sp ls ld tb rd : Nat → Int32) (und gon lef ak vn dy asd lma lim rea sts apr tz spo wro num nuA stl spe wan fou : Int32) (M : Od) (p o v k a y : Int), as = [.ref 0, .int (iI p), .int (iI o), .int (iI v), .int (iI k), .int (iI a), .int (iI y)] ∧ σ = (wMd now was kept isk ln sp ls ld tb rd und gon lef ak vn dy asd lma lim rea sts apr tz spo wro num nuA stl spe wan fou) ∧ RM now M ∧ OKM M ∧ M.1 5 < 40 ∧
  ∀ now', RM now' (oAdd M 5 (fun i => [p, o, v, k, a, y, -2].getD i 0)) → K (some (.int (iI (M.1 5 : Nat)))) (some (wMd now' was kept isk ln sp ls ld tb rd und gon lef ak vn dy asd lma lim rea sts apr tz spo wro num nuA stl spe wan fou)))
set_option maxRecDepth 20000 in
theorem v_mcomes (l : Launch) : z_V l 213 sp_mcomes := by
  refine z_V.ofP (by decide +kernel) ?_
  rintro as σ K Post ⟨now, was, kept, isk, ln, sp, ls, ld, tb, rd, und, gon, lef, ak, vn, dy, asd, lma, lim, rea, sts, apr, tz, spo, wro, num, nuA, stl, spe, wan, fou, M, p, o, v, k, a, y, rfl, rfl, hN, hO, hn, hK⟩ hP1 hP0
  have ei : ∀ c : Nat, c < 7 → z_nn 377 0 + z_nn 7 0 * iI (M.1 5 : Int) + z_nn c 0 = iI ((mi 5 (M.1 5) c : Nat) : Int) := by
    intro c hc; rw [zn_i, zn_i, zn_i, iI_mul, iI_add, iI_add]; rfl
  have hz : ∀ c : Nat, c < 7 → 9 ≤ mi 5 (M.1 5) c ∧ mi 5 (M.1 5) c < 657 := fun c hc => mi_lt' (by omega) hn (by rw [w_5]; omega)
  have em : ∀ c : Nat, mi 5 (M.1 5) c = 377 + 7 * M.1 5 + c := fun c => rfl
  refine AW.go (bs := b_Mod_comes) [] 120 t_Mod_comes ?_
  refine ⟨_, v_mrequests l, by decide, _, _, _, _, _, _, _, _, _, _, _, _, _, _, _, _, _, _, _, _, _, _, _, _, _, _, _, _, _, _, _, M, rfl, hN, hO, rfl, ?_⟩
  show _ ∧ _
  rw [ei 0 (by omega)]
  refine And.intro (zN_in (hz 0 (by omega)).2 (by have := hz 0 (by omega); omega)) ?_
  show _ ∧ _
  rw [ei 1 (by omega)]
  refine And.intro (zN_in (hz 1 (by omega)).2 (by have := hz 1 (by omega); omega)) ?_
  show _ ∧ _
  rw [ei 2 (by omega)]
  refine And.intro (zN_in (hz 2 (by omega)).2 (by have := hz 2 (by omega); omega)) ?_
  show _ ∧ _
  rw [ei 3 (by omega)]
  refine And.intro (zN_in (hz 3 (by omega)).2 (by have := hz 3 (by omega); omega)) ?_
  show _ ∧ _
  rw [ei 4 (by omega)]
  refine And.intro (zN_in (hz 4 (by omega)).2 (by have := hz 4 (by omega); omega)) ?_
  show _ ∧ _
  rw [ei 5 (by omega)]
  refine And.intro (zN_in (hz 5 (by omega)).2 (by have := hz 5 (by omega); omega)) ?_
  show _ ∧ _
  rw [ei 6 (by omega)]
  refine And.intro (zN_in (hz 6 (by omega)).2 (by have := hz 6 (by omega); omega)) ?_
  refine And.intro (zn_in (by omega) (by omega)) ?_
  refine And.intro (zn_in (by omega) (by omega)) ?_
  refine hP1 _ _ (hK _ (hN.add (by omega) hn (fun c hc => ?_) ?_ (fun j h1 h2 => ?_)))
  · have hc : c < 7 := hc
    rw [zN_cl (by have := hz 0 (by omega); omega), zN_cl (by have := hz 1 (by omega); omega), zN_cl (by have := hz 2 (by omega); omega), zN_cl (by have := hz 3 (by omega); omega), zN_cl (by have := hz 4 (by omega); omega), zN_cl (by have := hz 5 (by omega); omega), zN_cl (by have := hz 6 (by omega); omega), zn_cl (by omega)]
    have hcc := hz c hc
    simp only [em] at *
    have : c = 0 ∨ c = 1 ∨ c = 2 ∨ c = 3 ∨ c = 4 ∨ c = 5 ∨ c = 6 := by omega
    rcases this with rfl | rfl | rfl | rfl | rfl | rfl | rfl
    · simp only [upd]; rw [if_neg (by omega), if_neg (by omega), if_neg (by omega), if_neg (by omega), if_neg (by omega), if_neg (by omega), if_neg (by omega), if_pos (by trivial)]; rfl
    · simp only [upd]; rw [if_neg (by omega), if_neg (by omega), if_neg (by omega), if_neg (by omega), if_neg (by omega), if_neg (by omega), if_pos (by trivial)]; rfl
    · simp only [upd]; rw [if_neg (by omega), if_neg (by omega), if_neg (by omega), if_neg (by omega), if_neg (by omega), if_pos (by trivial)]; rfl
    · simp only [upd]; rw [if_neg (by omega), if_neg (by omega), if_neg (by omega), if_neg (by omega), if_pos (by trivial)]; rfl
    · simp only [upd]; rw [if_neg (by omega), if_neg (by omega), if_neg (by omega), if_pos (by trivial)]; rfl
    · simp only [upd]; rw [if_neg (by omega), if_neg (by omega), if_pos (by trivial)]; rfl
    · simp only [upd]; rw [if_neg (by omega), if_pos (by trivial)]; rfl
  · rw [zN_cl (by have := hz 0 (by omega); omega), zN_cl (by have := hz 1 (by omega); omega), zN_cl (by have := hz 2 (by omega); omega), zN_cl (by have := hz 3 (by omega); omega), zN_cl (by have := hz 4 (by omega); omega), zN_cl (by have := hz 5 (by omega); omega), zN_cl (by have := hz 6 (by omega); omega), zn_cl (by omega)]
    show upd _ 8 _ 8 = _
    simp only [upd]
    rw [if_pos (by trivial), if_neg (by rw [em]; omega), if_neg (by rw [em]; omega), if_neg (by rw [em]; omega), if_neg (by rw [em]; omega), if_neg (by rw [em]; omega), if_neg (by rw [em]; omega), if_neg (by rw [em]; omega), show now 8 = iI (M.1 5 : Nat) from hN.size 5 (by omega)]
    exact zn_inc _
  · replace h1 : j ≠ 8 := h1
    rw [zN_cl (by have := hz 0 (by omega); omega), zN_cl (by have := hz 1 (by omega); omega), zN_cl (by have := hz 2 (by omega); omega), zN_cl (by have := hz 3 (by omega); omega), zN_cl (by have := hz 4 (by omega); omega), zN_cl (by have := hz 5 (by omega); omega), zN_cl (by have := hz 6 (by omega); omega), zn_cl (by omega)]
    simp only [upd]
    rw [if_neg h1, if_neg (h2 6 (by decide)), if_neg (h2 5 (by decide)), if_neg (h2 4 (by decide)), if_neg (h2 3 (by decide)), if_neg (h2 2 (by decide)), if_neg (h2 1 (by decide)), if_neg (h2 0 (by decide))]
set_option maxRecDepth 20000 in
theorem v_mrequest (l : Launch) : z_V l 214 (m5 40 f_request) := by
  refine z_V.ofP (by decide +kernel) ?_
  rintro as σ K Post ⟨S, ⟨hOS, now, was, kept, isk, ln, sp, ls, ld, tb, rd, und, gon, lef, ak, vn, dy, asd, lma, lim, rea, sts, apr, tz, spo, wro, num, nuA, stl, spe, wan, fou, rfl, hMR⟩, p, o, q, a, y, rfl, ⟨p1, p2⟩, ⟨o1, o2⟩, ⟨q1, q2⟩, ⟨a1, a2⟩, ⟨y1, y2⟩, hK⟩ hP1 hP0
  obtain ⟨hN, h2_, rfl, h4_, h5_, h6_, h7_, rfl, rfl, rfl, h11_⟩ := id hMR
  have hO := hOS.1
  have hx4 := hO.2.2.2.2.2.2.2.2.2 4 (by omega)
  rw [x_4] at hx4
  have hx5 := hO.2.2.2.2.2.2.2.2.2 5 (by omega)
  rw [x_5] at hx5
  unfold f_request at hK
  have fail : Unit → ¬ (0 ≤ p ∧ p ≤ 15 ∧ 0 ≤ o ∧ o < S.1.1 4 ∧ 0 ≤ q ∧ q ≤ 29 ∧ 1 ≤ a ∧ a ≤ 9999 ∧ 0 ≤ y ∧ y ≤ 999) → Post (some (.int (iI (-1)))) (wMd now was kept isk ln sp ls ld tb rd (iI S.2.1.length) (iI (-1)) (iI (-1)) ak vn dy asd lma lim rea sts apr (iI S.2.2.2.1) spo wro num nuA stl spe wan fou) := by
    intro _ hn; rw [if_neg hn] at hK; exact hP1 _ _ (hK _ (isMd.mk hOS hMR))
  refine AW.go (bs := b_Mod_request) [] 90 t_Mod_request ?_
  refine ⟨_, v_misPerson l, by decide, rfl, p, rfl, ⟨p1, p2⟩, ?_⟩
  refine And.intro (fun h => ?_) (fun h => ?_)
  · rw [zc_beq, decide_eq_false_iff_not] at h; exact fail () (by omega)
  rw [zc_beq, decide_eq_false_iff_not, Classical.not_not] at h
  refine ⟨_, v_misPost l, by decide, _, _, _, _, _, _, _, _, _, _, _, _, _, _, _, _, _, _, _, _, _, _, _, _, _, _, _, _, _, _, _, S.1, rfl, hN, hO, o, rfl, ⟨o1, o2⟩, ?_⟩
  refine And.intro (fun h => ?_) (fun h => ?_)
  · rw [zc_beq, decide_eq_false_iff_not] at h; exact fail () (by omega)
  rw [zc_beq, decide_eq_false_iff_not, Classical.not_not] at h
  refine ⟨_, v_misWhich l, by decide, rfl, q, rfl, ⟨q1, q2⟩, ?_⟩
  refine And.intro (fun h => ?_) (fun h => ?_)
  · rw [zc_beq, decide_eq_false_iff_not] at h; exact fail () (by omega)
  rw [zc_beq, decide_eq_false_iff_not, Classical.not_not] at h
  refine ⟨_, v_in l, by decide, rfl, a, 1, 9999, _, _, _, rfl, l_i a1 a2, l_1, l_k 9999, ⟨by omega, by omega⟩, ⟨by omega, by omega⟩, ⟨by omega, by omega⟩, ?_⟩
  refine And.intro (fun h => ?_) (fun h => ?_)
  · rw [zc_beq, decide_eq_false_iff_not] at h; exact fail () (by omega)
  rw [zc_beq, decide_eq_false_iff_not, Classical.not_not] at h
  refine ⟨_, v_misDay l, by decide, rfl, y, rfl, ⟨y1, y2⟩, ?_⟩
  refine And.symm (And.intro (fun h => ?_) (fun h => ?_))
  · rw [zc_bne, decide_eq_true_eq] at h; exact fail () (by omega)
  rw [zc_bne, decide_eq_true_eq] at h
  rw [if_pos (by omega)] at hK
  refine ⟨_, v_mrequests l, by decide, _, _, _, _, _, _, _, _, _, _, _, _, _, _, _, _, _, _, _, _, _, _, _, _, _, _, _, _, _, _, _, S.1, rfl, hN, hO, rfl, ?_⟩
  refine And.symm (And.intro (fun h => ?_) (fun h => ?_))
  · rw [zn_i, zc_ne (by omega) (by omega) (by omega) (by omega), Classical.not_not] at h
    rw [if_neg (by omega)] at hK
    exact hP1 _ _ (hK _ (isMd.mk hOS hMR))
  rw [zn_i, zc_ne (by omega) (by omega) (by omega) (by omega)] at h
  rw [if_pos (by omega)] at hK
  refine ⟨_, v_mkeepsAct l, by decide, _, _, _, _, _, _, _, _, _, _, 0, _, _, _, _, _, _, _, _, _, _, _, _, _, _, _, _, _, _, _, _, S.1, S.2.1, rfl, rfl, hN, hOS.2.2.1, h2_, fun was' hW => ?_⟩
  refine And.intro (by decide) ?_
  refine And.intro (by decide) ?_
  show ∃ sp : Sp, _
  rw [zn_i 10, iI_rem (by omega) (by omega) (by omega) (by omega), iI_div (by omega) (by omega) (by omega) (by omega)]
  refine ⟨_, v_mcomes l, by decide, _, _, _, _, _, _, _, _, _, _, _, _, _, _, _, _, _, _, _, _, _, _, _, _, _, _, _, _, _, _, _, S.1, p, o, q % 10, q / 10, a, y, rfl, rfl, hN, hO, by omega, fun now' hN' => ?_⟩
  refine hP1 _ _ (hK _ (isMd.mk (act_ok hOS (oAdd_ok hO (by omega) (by rw [x_5]; omega) ?_)) (hMR.act hN' hW)))
  show 0 ≤ p ∧ p < 16 ∧ 0 ≤ o ∧ o < S.1.1 4 ∧ 0 ≤ q % 10 ∧ q % 10 < 10 ∧ 0 ≤ q / 10 ∧ q / 10 < 3 ∧ 1 ≤ a ∧ a ≤ 9999 ∧ 0 ≤ y ∧ y ≤ 999 ∧ ((-2 : Int) = -2 ∨ _)
  refine ⟨by omega, by omega, by omega, by omega, by omega, by omega, by omega, by omega, by omega, by omega, by omega, by omega, Or.inl rfl⟩
def mayR (M : Od) (r y : Int) (z : Int) : Int := if z = 0 then 1 else z
def sp_mmayRecall : Sp := spMd 34 (fun S as K => ∃ (r y : Int), as = [.ref 0, .int (iI r), .int (iI y)] ∧ ir r ∧ ir y ∧ K (some (.int (iI (if refF S.1 r y = 0 then 1 else refF S.1 r y)))) S)
set_option maxRecDepth 20000 in
theorem v_mmayRecall (l : Launch) : z_V l 215 sp_mmayRecall := by
  refine z_V.ofP (by decide +kernel) ?_
  rintro as σ K Post ⟨S, ⟨hOS, now, was, kept, isk, ln, sp, ls, ld, tb, rd, und, gon, lef, ak, vn, dy, asd, lma, lim, rea, sts, apr, tz, spo, wro, num, nuA, stl, spe, wan, fou, rfl, hMR⟩, r, y, rfl, ⟨r1, r2⟩, ⟨y1, y2⟩, hK⟩ hP1 hP0
  obtain ⟨hN, h2_, rfl, h4_, h5_, h6_, h7_, rfl, rfl, rfl, h11_⟩ := id hMR
  have hO := hOS.1
  have hx4 := hO.2.2.2.2.2.2.2.2.2 4 (by omega)
  rw [x_4] at hx4
  have hx5 := hO.2.2.2.2.2.2.2.2.2 5 (by omega)
  rw [x_5] at hx5
  have fail : Unit → ¬ (0 ≤ r ∧ r < S.1.1 5 ∧ 0 ≤ y ∧ y ≤ 999 ∧ S.1.2.1 5 r.toNat 5 ≤ y) → Post (some (.int (iI (-1)))) (wMd now was kept isk ln sp ls ld tb rd (iI S.2.1.length) (iI (-1)) (iI (-1)) ak vn dy asd lma lim rea sts apr (iI S.2.2.2.1) spo wro num nuA stl spe wan fou) := by
    intro _ hn
    have e : refF S.1 r y = -1 := by unfold refF; rw [if_neg hn]
    rw [e] at hK; exact hP1 _ _ (hK _ (isMd.mk hOS hMR))
  refine AW.go (bs := b_Mod_mayRecall) [] 90 t_Mod_mayRecall ?_
  refine ⟨_, v_misRequest l, by decide, _, _, _, _, _, _, _, _, _, _, _, _, _, _, _, _, _, _, _, _, _, _, _, _, _, _, _, _, _, _, _, S.1, rfl, hN, hO, r, rfl, ⟨r1, r2⟩, ?_⟩
  refine And.intro (fun h => ?_) (fun h => ?_)
  · rw [zc_beq, decide_eq_false_iff_not] at h; exact fail () (by omega)
  rw [zc_beq, decide_eq_false_iff_not, Classical.not_not] at h
  refine ⟨_, v_misDay l, by decide, rfl, y, rfl, ⟨y1, y2⟩, ?_⟩
  refine And.intro (fun h => ?_) (fun h => ?_)
  · rw [zc_beq, decide_eq_false_iff_not] at h; exact fail () (by omega)
  rw [zc_beq, decide_eq_false_iff_not, Classical.not_not] at h
  obtain ⟨k, rfl⟩ : ∃ k : Nat, r = (k : Int) := ⟨r.toNat, by omega⟩
  rw [Int.toNat_natCast] at fail
  have hr : k < S.1.1 5 := by omega
  have hc := hO.2.2.2.2.2.1 k hr
  have hw := whF_rng hO hr (S.1.2.1 5 k 5)
  have hwq : 1 ≤ wq S.1 k ∧ wq S.1 k ≤ 500000 := hw
  have hq := rq_ok hO hr
  refine ⟨_, v_mof l, by decide, _, _, _, _, _, _, _, _, _, _, _, _, _, _, _, _, _, _, _, _, _, _, _, _, _, _, _, _, _, _, _, S.1, rfl, hN, hO, k, 5, rfl, hr, by omega, ?_⟩
  refine And.symm (And.intro (fun h => ?_) (fun h => ?_))
  · rw [zc_ge y1 y2 (by omega) (by omega)] at h; exact fail () (by omega)
  rw [zc_ge y1 y2 (by omega) (by omega)] at h
  have hrf : refF S.1 (k : Int) y = (if S.1.2.1 5 k 6 ≠ -2 then -2 else if lC (rq S.1 k) (wq S.1 k) 4 = 0 ∧ lC (rq S.1 k) (wq S.1 k) 1 ≤ y then -3 else 0) := by
    unfold refF
    rw [if_pos (by rw [Int.toNat_natCast]; omega), Int.toNat_natCast]
  refine ⟨_, v_misRecalled l, by decide, _, _, _, _, _, _, _, _, _, _, _, _, _, _, _, _, _, _, _, _, _, _, _, _, _, _, _, _, _, _, _, S.1, rfl, hN, hO, k, rfl, hr, ?_⟩
  refine And.symm (And.intro (fun h => ?_) (fun h => ?_))
  · rw [zc_beq, recd, decide_eq_false_iff_not, Classical.not_not] at h
    rw [if_pos h] at hrf
    rw [hrf, if_neg (by decide)] at hK
    exact hP1 _ _ (hK _ (isMd.mk hOS hMR))
  rw [zc_beq, recd, decide_eq_false_iff_not] at h
  rw [if_neg h] at hrf
  refine ⟨_, v_mroutes l, by decide, _, _, _, _, _, _, _, _, _, _, _, 0, 0, _, _, _, _, _, _, _, _, _, _, _, _, _, _, _, _, _, _, S.1, k, -1, -1, rfl, rfl, hN, hO, hr, ⟨by omega, by omega⟩, ⟨by omega, by omega⟩, fun sp' ls' ln' ak' vn' dy' asd' lma' lim' rea' sts' apr' hrt => ?_⟩
  have hrt0 : mRt (rq S.1 k) (wq S.1 k) sp' ls' sts' apr' := hrt
  have hne : rq S.1 k ≠ [] := routeF_ne (by omega) (by omega) (by omega)
  obtain ⟨hRR, rfl, rfl⟩ := hrt
  have hl1 := lC_rng hq.1 (wq S.1 k) 1
  refine And.intro (fun h => ?_) (fun h => ?_)
  · rw [zc_beq, decide_eq_false_iff_not] at h
    rw [if_neg (fun q => h q.1)] at hrf
    rw [hrf, if_pos rfl] at hK
    exact hP1 _ _ (hK _ (isMd.mk hOS hMR))
  rw [zc_beq, decide_eq_false_iff_not, Classical.not_not] at h
  have h : lC (rq S.1 k) (wq S.1 k) 4 = 0 := h
  refine ⟨_, v_mlast l, by decide, _, _, _, _, _, _, _, _, _, _, _, _, _, _, _, _, _, _, _, _, _, _, _, _, _, _, _, _, _, _, _, wq S.1 k, rq S.1 k, rfl, hrt0, hq.2, hne, 1, rfl, by omega, ?_⟩
  refine And.intro (fun h2 => ?_) (fun h2 => ?_)
  · rw [zc_gt (by omega) (by omega) y1 y2] at h2
    rw [if_neg (fun q => by omega)] at hrf
    rw [hrf, if_pos rfl] at hK
    exact hP1 _ _ (hK _ (isMd.mk hOS hMR))
  · rw [zc_gt (by omega) (by omega) y1 y2] at h2
    rw [if_pos ⟨h, by omega⟩] at hrf
    rw [hrf, if_neg (by decide)] at hK
    exact hP1 _ _ (hK _ (isMd.mk hOS hMR))
set_option maxRecDepth 20000 in
theorem v_mrecall (l : Launch) : z_V l 216 (m2 40 f_recall) := by
  refine z_V.ofP (by decide +kernel) ?_
  rintro as σ K Post ⟨S, hA, r, y, rfl, ⟨r1, r2⟩, ⟨y1, y2⟩, hK⟩ hP1 hP0
  have hA0 := hA
  obtain ⟨hOS, now, was, kept, isk, ln, sp, ls, ld, tb, rd, und, gon, lef, ak, vn, dy, asd, lma, lim, rea, sts, apr, tz, spo, wro, num, nuA, stl, spe, wan, fou, rfl, hMR⟩ := hA
  unfold f_recall at hK
  have hf := refF_rng S.1 r y
  refine AW.go (bs := b_Mod_recall) [] 60 t_Mod_recall ?_
  refine ⟨_, v_mmayRecall l, by decide, S, hA0, r, y, rfl, ⟨r1, r2⟩, ⟨y1, y2⟩, fun σ' hA' => ?_⟩
  clear hA0 hMR hOS
  obtain ⟨hOS, now, was, kept, isk, ln, sp, ls, ld, tb, rd, und, gon, lef, ak, vn, dy, asd, lma, lim, rea, sts, apr, tz, spo, wro, num, nuA, stl, spe, wan, fou, rfl, hMR⟩ := hA'
  obtain ⟨hN, h2_, rfl, h4_, h5_, h6_, h7_, rfl, rfl, rfl, h11_⟩ := id hMR
  have hO := hOS.1
  have hx4 := hO.2.2.2.2.2.2.2.2.2 4 (by omega)
  rw [x_4] at hx4
  have hx5 := hO.2.2.2.2.2.2.2.2.2 5 (by omega)
  rw [x_5] at hx5
  by_cases h : refF S.1 r y = 0
  · rw [if_pos h] at hK
    show _ ∧ _
    rw [if_pos h]
    refine And.symm (And.intro (fun h => ?_) (fun h => ?_))
    · rw [zc_ge0 (by omega) (by omega)] at h; omega
    have g := refF_0 (by assumption : refF S.1 r y = 0)
    obtain ⟨k, rfl⟩ : ∃ k : Nat, r = (k : Int) := ⟨r.toNat, by omega⟩
    rw [Int.toNat_natCast] at hK g
    have hz := mi_lt' (c := 6) (by omega : 5 < 6) (show k < oX 5 by rw [x_5]; omega) (by decide)
    have ei : z_nn 377 0 + z_nn 7 0 * iI (k : Int) + z_nn 6 0 = iI ((mi 5 k 6 : Nat) : Int) := by rw [zn_i, zn_i, zn_i, iI_mul, iI_add, iI_add]; rfl
    refine ⟨_, v_mkeepsAct l, by decide, _, _, _, _, _, _, _, _, _, _, 0, _, _, _, _, _, _, _, _, _, _, _, _, _, _, _, _, _, _, _, _, S.1, S.2.1, rfl, rfl, hN, hOS.2.2.1, h2_, fun was' hW => ?_⟩
    show _ ∧ _
    rw [ei]
    refine And.intro (zN_in hz.2 (by omega)) ?_
    show Post _ _
    rw [zN_cl (by omega)]
    have hp := hN.put (d := 5) (c := 6) (by omega) (show k < S.1.1 5 by omega) (by decide) y
    rw [mVal, if_neg (by omega)] at hp
    exact hP1 _ _ (hK _ (isMd.mk (act_ok hOS (oPut6_ok hO (by omega) (by omega) (by omega))) (hMR.act hp hW)))
  · rw [if_neg h] at hK
    show _ ∧ _
    rw [if_neg h]
    refine And.symm (And.intro (fun h => ?_) (fun h => ?_))
    · exact hP1 _ _ (hK _ (isMd.mk hOS hMR))
    · rw [zc_ge0 (by omega) (by omega)] at h; omega
set_option maxRecDepth 20000 in
theorem v_mamend (l : Launch) : z_V l 217 (m3 40 f_amend) := by
  refine z_V.ofP (by decide +kernel) ?_
  rintro as σ K Post ⟨S, hA, r, a, y, rfl, ⟨r1, r2⟩, ⟨a1, a2⟩, ⟨y1, y2⟩, hK⟩ hP1 hP0
  have hA0 := hA
  obtain ⟨hOS, now, was, kept, isk, ln, sp, ls, ld, tb, rd, und, gon, lef, ak, vn, dy, asd, lma, lim, rea, sts, apr, tz, spo, wro, num, nuA, stl, spe, wan, fou, rfl, hMR⟩ := hA
  unfold f_amend at hK
  have hf := refF_rng S.1 r y
  refine AW.go (bs := b_Mod_amend) [] 90 t_Mod_amend ?_
  refine ⟨_, v_mmayRecall l, by decide, S, hA0, r, y, rfl, ⟨r1, r2⟩, ⟨y1, y2⟩, fun σ' hA' => ?_⟩
  clear hA0 hMR hOS
  obtain ⟨hOS, now, was, kept, isk, ln, sp, ls, ld, tb, rd, und, gon, lef, ak, vn, dy, asd, lma, lim, rea, sts, apr, tz, spo, wro, num, nuA, stl, spe, wan, fou, rfl, hMR⟩ := hA'
  obtain ⟨hN, h2_, rfl, h4_, h5_, h6_, h7_, rfl, rfl, rfl, h11_⟩ := id hMR
  have hO := hOS.1
  have hx4 := hO.2.2.2.2.2.2.2.2.2 4 (by omega)
  rw [x_4] at hx4
  have hx5 := hO.2.2.2.2.2.2.2.2.2 5 (by omega)
  rw [x_5] at hx5
  obtain ⟨z, hz⟩ : ∃ z : Int, z = if refF S.1 r y = 0 then 1 else refF S.1 r y := ⟨_, rfl⟩
  have hzr : -3 ≤ z ∧ z ≤ 1 ∧ (z = -1 ↔ refF S.1 r y = -1) ∧ (z = -2 ↔ refF S.1 r y = -2) ∧ (z = 1 ↔ refF S.1 r y = 0) ∧ (z < 0 → z = refF S.1 r y) := by
    rw [hz]; split <;> omega
  show _ ∧ _
  rw [← hz]
  refine And.intro (fun h => ?_) (fun h => ?_)
  · have h := (zc_eq (b := -1) (by omega) (by omega) (by omega) (by omega)).mp h
    rw [if_pos (Or.inl (by omega))] at hK
    exact hP1 _ _ (hK _ (isMd.mk hOS hMR))
  have h1 := mt (zc_eq (a := z) (b := -1) (by omega) (by omega) (by omega) (by omega)).mpr h
  refine ⟨_, v_in l, by decide, rfl, a, 1, 9999, _, _, _, rfl, l_i a1 a2, l_1, l_k 9999, ⟨by omega, by omega⟩, ⟨by omega, by omega⟩, ⟨by omega, by omega⟩, ?_⟩
  refine And.symm (And.intro (fun h => ?_) (fun h => ?_))
  · rw [zc_bne, decide_eq_true_eq] at h
    rw [if_pos (Or.inr h)] at hK
    exact hP1 _ _ (hK _ (isMd.mk hOS hMR))
  rw [zc_bne, decide_eq_true_eq] at h
  rw [if_neg (fun q => by omega)] at hK
  refine And.intro (fun h2 => ?_) (fun h2 => ?_)
  · have h2 := (zc_eq (b := -2) (by omega) (by omega) (by omega) (by omega)).mp h2
    have e2 : refF S.1 r y = -2 := by omega
    by_cases hfull : 40 ≤ S.1.1 5
    · rw [if_pos hfull] at hK
      exact hP1 _ _ (hK _ (isMd.mk hOS hMR))
    · rw [if_neg hfull, if_pos (by omega), e2] at hK
      exact hP1 _ _ (hK _ (isMd.mk hOS hMR))
  have h2 := mt (zc_eq (a := z) (b := -2) (by omega) (by omega) (by omega) (by omega)).mpr h2
  refine ⟨_, v_mrequests l, by decide, _, _, _, _, _, _, _, _, _, _, _, _, _, _, _, _, _, _, _, _, _, _, _, _, _, _, _, _, _, _, _, S.1, rfl, hN, hO, rfl, ?_⟩
  refine And.symm (And.intro (fun h3 => ?_) (fun h3 => ?_))
  · rw [zn_i, zc_ne (by omega) (by omega) (by omega) (by omega), Classical.not_not] at h3
    rw [if_pos (by omega)] at hK
    exact hP1 _ _ (hK _ (isMd.mk hOS hMR))
  rw [zn_i, zc_ne (by omega) (by omega) (by omega) (by omega)] at h3
  rw [if_neg (by omega)] at hK
  refine And.symm (And.intro (fun h4 => ?_) (fun h4 => ?_))
  · rw [zc_ge0 (by omega) (by omega)] at h4
    rw [if_pos (by omega), ← hzr.2.2.2.2.2 (by omega)] at hK
    exact hP1 _ _ (hK _ (isMd.mk hOS hMR))
  rw [zc_ge0 (by omega) (by omega)] at h4
  have h0 : refF S.1 r y = 0 := by rw [hz] at h4 h1 h2; split at h4 <;> omega
  rw [if_neg (fun q => q h0)] at hK
  have g := refF_0 h0
  obtain ⟨k, rfl⟩ : ∃ k : Nat, r = (k : Int) := ⟨r.toNat, by omega⟩
  rw [Int.toNat_natCast] at hK g
  have hr : k < S.1.1 5 := by omega
  have hc := hO.2.2.2.2.2.1 k hr
  have hz6 := mi_lt' (c := 6) (by omega : 5 < 6) (show k < oX 5 by rw [x_5]; omega) (by decide)
  have ei : z_nn 377 0 + z_nn 7 0 * iI (k : Int) + z_nn 6 0 = iI ((mi 5 k 6 : Nat) : Int) := by rw [zn_i, zn_i, zn_i, iI_mul, iI_add, iI_add]; rfl
  have hN2 := hN.put (d := 5) (c := 6) (by omega) hr (by decide) y
  rw [mVal, if_neg (by omega)] at hN2
  have hO2 := oPut6_ok hO hr (y := y) (by omega) (by omega)
  have ec : ∀ c, c < 6 → (oPut S.1 5 k 6 y).2.1 5 k c = S.1.2.1 5 k c := fun c hc => by
    show (if 5 = 5 ∧ k = k ∧ c = 6 then y else S.1.2.1 5 k c) = _
    rw [if_neg (by omega)]
  refine ⟨_, v_mkeepsAct l, by decide, _, _, _, _, _, _, _, _, _, _, 0, _, _, _, _, _, _, _, _, _, _, _, _, _, _, _, _, _, _, _, _, S.1, S.2.1, rfl, rfl, hN, hOS.2.2.1, h2_, fun was' hW => ?_⟩
  show _ ∧ _
  rw [ei]
  refine And.intro (zN_in hz6.2 (by omega)) ?_
  show ∃ sp : Sp, _
  rw [zN_cl (by omega)]
  refine ⟨_, v_mof l, by decide, _, _, _, _, _, _, _, _, _, _, _, _, _, _, _, _, _, _, _, _, _, _, _, _, _, _, _, _, _, _, _, oPut S.1 5 k 6 y, rfl, hN2, hO2, k, 0, rfl, hr, by omega, ?_⟩
  refine ⟨_, v_mof l, by decide, _, _, _, _, _, _, _, _, _, _, _, _, _, _, _, _, _, _, _, _, _, _, _, _, _, _, _, _, _, _, _, oPut S.1 5 k 6 y, rfl, hN2, hO2, k, 1, rfl, hr, by omega, ?_⟩
  refine ⟨_, v_mof l, by decide, _, _, _, _, _, _, _, _, _, _, _, _, _, _, _, _, _, _, _, _, _, _, _, _, _, _, _, _, _, _, _, oPut S.1 5 k 6 y, rfl, hN2, hO2, k, 2, rfl, hr, by omega, ?_⟩
  refine ⟨_, v_mof l, by decide, _, _, _, _, _, _, _, _, _, _, _, _, _, _, _, _, _, _, _, _, _, _, _, _, _, _, _, _, _, _, _, oPut S.1 5 k 6 y, rfl, hN2, hO2, k, 3, rfl, hr, by omega, ?_⟩
  show ∃ sp : Sp, _
  rw [ec 0 (by omega), ec 1 (by omega), ec 2 (by omega), ec 3 (by omega)]
  refine ⟨_, v_mcomes l, by decide, _, _, _, _, _, _, _, _, _, _, _, _, _, _, _, _, _, _, _, _, _, _, _, _, _, _, _, _, _, _, _, oPut S.1 5 k 6 y, _, _, _, _, a, y, rfl, rfl, hN2, hO2, by show S.1.1 5 < 40; omega, fun now' hN' => ?_⟩
  refine hP1 _ _ (hK _ (isMd.mk (act_ok hOS (oAdd_ok hO2 (by omega) (by rw [x_5]; show S.1.1 5 < 40; omega) ?_)) (hMR.act hN' hW)))
  show 0 ≤ S.1.2.1 5 k 0 ∧ S.1.2.1 5 k 0 < 16 ∧ 0 ≤ S.1.2.1 5 k 1 ∧ S.1.2.1 5 k 1 < S.1.1 4 ∧ 0 ≤ S.1.2.1 5 k 2 ∧ S.1.2.1 5 k 2 < 10 ∧ 0 ≤ S.1.2.1 5 k 3 ∧ S.1.2.1 5 k 3 < 3 ∧ 1 ≤ a ∧ a ≤ 9999 ∧ 0 ≤ y ∧ y ≤ 999 ∧ ((-2 : Int) = -2 ∨ _)
  refine ⟨by omega, by omega, by omega, by omega, by omega, by omega, by omega, by omega, by omega, by omega, by omega, by omega, Or.inl rfl⟩
