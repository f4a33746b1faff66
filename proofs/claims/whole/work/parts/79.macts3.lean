def sp_mmanyR : Sp := (0, 0, 0, pMd, fun as σ K => ∃ (now was kept isk ln sp ls ld tb rd : Nat → Int32) (und gon lef ak vn dy asd lma lim rea sts apr tz spo wro num nuA stl spe wan fou : Int32), σ = (wMd now was kept isk ln sp ls ld tb rd und gon lef ak vn dy asd lma lim rea sts apr tz spo wro num nuA stl spe wan fou) ∧ ∃ (d : Nat) (v : Int), as = [.ref 0, .int (iI d)] ∧ d < 4 ∧ now (1 + d) = iI v ∧ K (some (.int (iI v))) none)
set_option maxRecDepth 20000 in
theorem v_mmanyR (l : Launch) : z_V l 162 sp_mmanyR := by
  refine z_V.ofP (by decide +kernel) ?_
  rintro as σ K Post ⟨now, was, kept, isk, ln, sp, ls, ld, tb, rd, und, gon, lef, ak, vn, dy, asd, lma, lim, rea, sts, apr, tz, spo, wro, num, nuA, stl, spe, wan, fou, rfl, d, v, rfl, hd, hv, hK⟩ hP1 hP0
  refine AW.go (bs := b_Mod_many) [] 60 t_Mod_many ?_
  show _ ∧ _
  rw [zn_i 1, iI_add, show (((1 : Nat) : Int) + (d : Int)) = ((1 + d : Nat) : Int) by omega]
  refine And.intro (zN_in (by omega) (by omega)) ?_
  show Post _ _
  rw [zN_cl (by omega), hv]
  exact hP0 _ hK
def sp_misEntry : Sp := spN 1 (fun M _ _ _ _ _ as K => ∃ (d k : Int), as = [.ref 0, .int (iI d), .int (iI k)] ∧ ir d ∧ ir k ∧ K (some (.int (bI (decide (0 ≤ d ∧ d ≤ 3 ∧ 0 ≤ k ∧ k < M.1 d.toNat))))))
set_option maxRecDepth 20000 in
theorem v_misEntry (l : Launch) : z_V l 184 sp_misEntry := by
  refine z_V.ofP (by decide +kernel) ?_
  rintro as σ K Post ⟨now, was, kept, isk, ln, sp, ls, ld, tb, rd, und, gon, lef, ak, vn, dy, asd, lma, lim, rea, sts, apr, tz, spo, wro, num, nuA, stl, spe, wan, fou, M, rfl, hN, hO, d, k, rfl, ⟨d1, d2⟩, ⟨k1, k2⟩, hK⟩ hP1 hP0
  refine AW.go (bs := b_Mod_isEntry) [] 60 t_Mod_isEntry ?_
  refine ⟨_, v_in l, by decide, rfl, d, 0, 3, _, _, _, rfl, l_i d1 d2, l_0, l_k 3, ⟨by omega, by omega⟩, ⟨by omega, by omega⟩, ⟨by omega, by omega⟩, ?_⟩
  refine And.intro (fun h => ?_) (fun h => ?_)
  · rw [zc_beq, decide_eq_false_iff_not] at h
    rw [decide_eq_false (by omega)] at hK
    exact And.intro (Or.inl rfl) (hP0 _ hK)
  rw [zc_beq, decide_eq_false_iff_not, Classical.not_not] at h
  obtain ⟨e, rfl⟩ : ∃ e : Nat, d = (e : Int) := ⟨d.toNat, by omega⟩
  rw [Int.toNat_natCast] at hK
  have hx := hO.mx e (by omega)
  refine ⟨_, v_mmany l, by decide, _, _, _, _, _, _, _, _, _, _, _, _, _, _, _, _, _, _, _, _, _, _, _, _, _, _, _, _, _, _, _, M, rfl, hN, hO, e, rfl, by omega, ?_⟩
  show ∃ sp : Sp, _
  rw [zn_i 1, iI_sub]
  refine ⟨_, v_in l, by decide, rfl, k, 0, (M.1 e : Int) - 1, _, _, _, rfl, l_i k1 k2, l_0, l_i (by omega) (by omega), ⟨by omega, by omega⟩, ⟨by omega, by omega⟩, ⟨by omega, by omega⟩, ?_⟩
  refine And.intro (fun h2 => ?_) (fun h2 => ?_)
  · rw [zc_beq, decide_eq_false_iff_not] at h2
    rw [decide_eq_false (by omega)] at hK
    exact And.intro (Or.inl rfl) (hP0 _ hK)
  · rw [zc_beq, decide_eq_false_iff_not, Classical.not_not] at h2
    rw [decide_eq_true (by omega)] at hK
    exact And.intro (Or.inr rfl) (hP0 _ hK)
set_option maxRecDepth 20000 in
theorem v_mdrop (l : Launch) : z_V l 224 (m2 40 f_drop) := by
  refine z_V.ofP (by decide +kernel) ?_
  rintro as σ K Post ⟨S, ⟨hOS, now, was, kept, isk, ln, sp, ls, ld, tb, rd, und, gon, lef, ak, vn, dy, asd, lma, lim, rea, sts, apr, tz, spo, wro, num, nuA, stl, spe, wan, fou, rfl, hMR⟩, d, k, rfl, ⟨d1, d2⟩, ⟨k1, k2⟩, hK⟩ hP1 hP0
  obtain ⟨hN, h2_, rfl, h4_, h5_, h6_, h7_, rfl, rfl, rfl, h11_⟩ := id hMR
  have hO := hOS.1
  have hx4 := hO.2.2.2.2.2.2.2.2.2 4 (by omega)
  rw [x_4] at hx4
  have hx5 := hO.2.2.2.2.2.2.2.2.2 5 (by omega)
  rw [x_5] at hx5
  unfold f_drop at hK
  have loop : ∀ e i : Nat, d = (e : Int) → k = (i : Int) → e < 4 → i < S.1.1 e → ∀ (n j : Nat) (x5 : Int32) (now' was' : Nat → Int32) (und' : Int32), und' = iI (hisA S.2.1 S.1).length → (∀ (i : Nat) (M : Od), (hisA S.2.1 S.1)[i]? = some M → RM (rwI was' i) M) → n = mi e (S.1.1 e - 1) 0 - j → mi e i 0 ≤ j → j ≤ mi e (S.1.1 e - 1) 0 → x5 = iI (j : Int) → now' (mS e) = iI ((S.1.1 e : Int) - 1) → (∀ q, mi e i 0 ≤ q → q < j → now' q = now (q + oW e)) → (∀ q, q ≠ mS e → ¬ (mi e i 0 ≤ q ∧ q < j) → now' q = now q) →
      AW l 224 40 0 0 11 none Post 46 [some (.ref 0), some (.int (iI d)), some (.int (iI k)), some (.int (iI (oW e : Nat))), some (.int (iI (mB e : Nat))), some (.int x5)] [] (wMd now' was' kept isk ln sp ls ld tb rd und' (iI (-1)) (iI (-1)) ak vn dy asd lma lim rea sts apr (iI S.2.2.2.1) spo wro num nuA stl spe wan fou) 0 0 := by
    intro e i hde hki he hi n
    subst hde; subst hki
    rw [Int.toNat_natCast, Int.toNat_natCast, if_pos (by omega)] at hK
    have hmx := hO.2.2.2.2.2.2.2.2.2 e (by omega)
    have hm40 := hO.mx e (by omega)
    have hw : 2 ≤ oW e ∧ oW e ≤ 5 := by rcases d4 he with rfl | rfl | rfl | rfl <;> decide
    have hml := mi_lt' (c := 0) (by omega : e < 6) (show S.1.1 e - 1 < oX e by omega) (by omega)
    have hmi := mi_lt' (c := 0) (by omega : e < 6) (show i < oX e by omega) (by omega)
    have hml2 : mi e (S.1.1 e - 1) 0 + oW e ≤ 657 := by
      have := mi_lt' (c := oW e - 1) (by omega : e < 6) (show S.1.1 e - 1 < oX e by omega) (by omega)
      unfold mi at *; omega
    have em : mS e = 1 + e := by rcases d4 he with rfl | rfl | rfl | rfl <;> rfl
    induction n using Nat.strongRecOn with
    | ind n ih =>
      intro j x5 now' was' und' hund hW hn hj0 hj e5 h0 h1 h2
      subst e5; subst hund
      have e1 : z_nn 1 0 + iI (e : Int) = iI ((mS e : Nat) : Int) := by rw [zn_i, iI_add, em]; rfl
      refine AW.go (bs := b_Mod_drop) [46] 90 t_Mod_drop ?_
      refine ⟨_, v_mmanyR l, by decide, _, _, _, _, _, _, _, _, _, _, _, _, _, _, _, _, _, _, _, _, _, _, _, _, _, _, _, _, _, _, _, rfl, e, (S.1.1 e : Int) - 1, rfl, he, by rw [← em]; exact h0, ?_⟩
      have ee : iI ((mB e : Nat) : Int) + iI ((oW e : Nat) : Int) * iI ((S.1.1 e : Int) - 1) = iI ((mi e (S.1.1 e - 1) 0 : Nat) : Int) := by
        rw [iI_mul, iI_add]; congr 1; unfold mi; push_cast; rw [Int.ofNat_sub (by omega)]; simp
      show _ ∧ _
      rw [ee]
      refine And.intro (fun h => ?_) (fun h => ?_)
      · rw [zc_ge (by omega) (by omega) (by omega) (by omega)] at h
        have : j = mi e (S.1.1 e - 1) 0 := by omega
        subst this
        refine ⟨_, v_mmanyR l, by decide, _, _, _, _, _, _, _, _, _, _, _, _, _, _, _, _, _, _, _, _, _, _, _, _, _, _, _, _, _, _, _, rfl, e, (S.1.1 e : Int) - 1, rfl, he, by rw [← em]; exact h0, ?_⟩
        exact hP1 _ _ (hK _ (isMd.mk (act_ok hOS (oDel_ok hO (by omega) hi)) (hMR.act (hN.del he hi h1 h0 h2) hW)))
      rw [zc_ge (by omega) (by omega) (by omega) (by omega)] at h
      have ej : iI (j : Int) + iI ((oW e : Nat) : Int) = iI ((j + oW e : Nat) : Int) := by rw [iI_add]; rfl
      show _ ∧ _
      rw [ej]
      refine And.intro (zN_in (by omega) (by omega)) ?_
      refine And.intro (zN_in (by omega) (by omega)) ?_
      show AW _ _ _ _ _ _ _ _ _ _ _ _ _ _
      rw [zN_cl (by omega), zN_cl (by omega), h2 (j + oW e) (by have := mS_lt (show e < 6 by omega); omega) (by omega)]
      refine ih _ (by omega) (j + 1) _ _ _ _ rfl hW rfl (by omega) (by omega) (zn_inc j) ?_ (fun q q1 q2 => ?_) (fun q q1 q2 => ?_)
      · unfold upd; rw [if_neg (by have := mS_lt (show e < 6 by omega); omega)]; exact h0
      · unfold upd
        by_cases e3 : q = j
        · rw [if_pos e3, e3]
        · rw [if_neg e3]; exact h1 q q1 (by omega)
      · unfold upd; rw [if_neg (by omega)]; exact h2 q q1 (by omega)
  refine AW.go (bs := b_Mod_drop) [46] 90 t_Mod_drop ?_
  refine ⟨_, v_misEntry l, by decide, _, _, _, _, _, _, _, _, _, _, _, _, _, _, _, _, _, _, _, _, _, _, _, _, _, _, _, _, _, _, _, S.1, rfl, hN, hO, d, k, rfl, ⟨d1, d2⟩, ⟨k1, k2⟩, ?_⟩
  refine And.symm (And.intro (fun h => ?_) (fun h => ?_))
  · rw [zc_bne, decide_eq_true_eq] at h
    rw [if_neg h] at hK
    exact hP1 _ _ (hK _ (isMd.mk hOS hMR))
  rw [zc_bne, decide_eq_true_eq] at h
  obtain ⟨e, rfl⟩ : ∃ e : Nat, d = (e : Int) := ⟨d.toNat, by omega⟩
  obtain ⟨i, rfl⟩ : ∃ i : Nat, k = (i : Int) := ⟨k.toNat, by omega⟩
  rw [Int.toNat_natCast] at h
  have he : e < 4 := by omega
  have hi : i < S.1.1 e := by omega
  have em : mS e = 1 + e := by rcases d4 he with rfl | rfl | rfl | rfl <;> rfl
  have hw : 2 ≤ oW e ∧ oW e ≤ 5 := by rcases d4 he with rfl | rfl | rfl | rfl <;> decide
  have e1 : z_nn 1 0 + iI (e : Int) = iI ((mS e : Nat) : Int) := by rw [zn_i, iI_add, em]; rfl
  refine ⟨_, v_mkeepsAct l, by decide, _, _, _, _, _, _, _, _, _, _, 0, _, _, _, _, _, _, _, _, _, _, _, _, _, _, _, _, _, _, _, _, S.1, S.2.1, rfl, rfl, hN, hOS.2.2.1, h2_, fun was' hW => ?_⟩
  show _ ∧ _
  rw [e1]
  refine And.intro (zN_in (by omega) (by omega)) ?_
  refine And.intro (zN_in (by omega) (by omega)) ?_
  refine ⟨_, v_mlongOf l, by decide, rfl, e, rfl, he, ?_⟩
  refine ⟨_, v_mbeginOf l, by decide, rfl, e, rfl, he, ?_⟩
  have ei : iI ((mB e : Nat) : Int) + iI ((oW e : Nat) : Int) * iI (i : Int) = iI ((mi e i 0 : Nat) : Int) := by rw [iI_mul, iI_add]; rfl
  show AW _ _ _ _ _ _ _ _ _ _ _ _ _ _
  rw [ei, zN_cl (by omega), hN.size e (by omega), zn_i, iI_sub]
  refine loop e i rfl rfl he hi _ (mi e i 0) _ _ _ _ rfl hW rfl (Nat.le_refl _) ?_ rfl ?_ (fun q q1 q2 => by omega) (fun q q1 q2 => ?_)
  · unfold mi
    have : oW e * i ≤ oW e * (S.1.1 e - 1) := Nat.mul_le_mul_left _ (by omega)
    omega
  · unfold upd; rw [if_pos rfl]; rfl
  · unfold upd; rw [if_neg q1]
def sp_mbecomes : Sp := (2, 0, 0, pMd, fun as σ K => ∃ (now was kept isk ln sp ls ld tb rd : Nat → Int32) (und gon lef ak vn dy asd lma lim rea sts apr tz spo wro num nuA stl spe wan fou : Int32) (S : St) (j : Nat) (old v : Int), as = [.ref 0, .int (iI j), .int (iI v)] ∧ σ = (wMd now was kept isk ln sp ls ld tb rd (iI S.2.1.length) (iI (-1)) (iI (-1)) ak vn dy asd lma lim rea sts apr (iI S.2.2.2.1) spo wro num nuA stl spe wan fou) ∧ OKS S ∧ MR S now was kept isk tb (iI S.2.1.length) (iI (-1)) (iI (-1)) (iI S.2.2.2.1) ∧ j < 657 ∧ now j = iI old ∧ ir old ∧ ir v ∧ (old = v → K (some (.int (iI (-2)))) (some (wMd now was kept isk ln sp ls ld tb rd (iI S.2.1.length) (iI (-1)) (iI (-1)) ak vn dy asd lma lim rea sts apr (iI S.2.2.2.1) spo wro num nuA stl spe wan fou))) ∧
  (old ≠ v → ∀ was', (∀ (i : Nat) (M : Od), (hisA S.2.1 S.1)[i]? = some M → RM (rwI was' i) M) → K (some (.int (iI old))) (some (wMd (upd now j (iI v)) was' kept isk ln sp ls ld tb rd (iI (hisA S.2.1 S.1).length) (iI (-1)) (iI (-1)) ak vn dy asd lma lim rea sts apr (iI S.2.2.2.1) spo wro num nuA stl spe wan fou))))
set_option maxRecDepth 20000 in
theorem v_mbecomes (l : Launch) : z_V l 225 sp_mbecomes := by
  refine z_V.ofP (by decide +kernel) ?_
  rintro as σ K Post ⟨now, was, kept, isk, ln, sp, ls, ld, tb, rd, und, gon, lef, ak, vn, dy, asd, lma, lim, rea, sts, apr, tz, spo, wro, num, nuA, stl, spe, wan, fou, S, j, old, v, rfl, rfl, hOS, hMR, hj, hold, ⟨o1, o2⟩, ⟨v1, v2⟩, hK1, hK2⟩ hP1 hP0
  refine AW.go (bs := b_Mod_becomes) [] 60 t_Mod_becomes ?_
  refine And.intro (zN_in hj (by omega)) ?_
  show _ ∧ _
  rw [zN_cl (by omega), hold]
  refine And.symm (And.intro (fun h => ?_) (fun h => ?_))
  · rw [zc_ne o1 o2 v1 v2, Classical.not_not] at h
    exact hP1 _ _ (hK1 h)
  rw [zc_ne o1 o2 v1 v2] at h
  refine ⟨_, v_mkeepsAct l, by decide, _, _, _, _, _, _, _, _, _, _, 0, _, _, _, _, _, _, _, _, _, _, _, _, _, _, _, _, _, _, _, _, S.1, S.2.1, rfl, rfl, hMR.1, hOS.2.2.1, hMR.2.1, fun was' hW => ?_⟩
  refine And.intro (zN_in hj (by omega)) ?_
  show Post _ _
  rw [zN_cl (by omega)]
  exact hP1 _ _ (hK2 h was' hW)
set_option maxRecDepth 20000 in
theorem v_mlimit (l : Launch) : z_V l 226 (m3 40 f_limit) := by
  refine z_V.ofP (by decide +kernel) ?_
  rintro as σ K Post ⟨S, ⟨hOS, now, was, kept, isk, ln, sp, ls, ld, tb, rd, und, gon, lef, ak, vn, dy, asd, lma, lim, rea, sts, apr, tz, spo, wro, num, nuA, stl, spe, wan, fou, rfl, hMR⟩, o, k, x, rfl, ⟨o1, o2⟩, ⟨k1, k2⟩, ⟨x1, x2⟩, hK⟩ hP1 hP0
  obtain ⟨hN, h2_, rfl, h4_, h5_, h6_, h7_, rfl, rfl, rfl, h11_⟩ := id hMR
  have hO := hOS.1
  have hx4 := hO.2.2.2.2.2.2.2.2.2 4 (by omega)
  rw [x_4] at hx4
  have hx5 := hO.2.2.2.2.2.2.2.2.2 5 (by omega)
  rw [x_5] at hx5
  unfold f_limit at hK
  have fail : Unit → ¬ (0 ≤ o ∧ o < S.1.1 4 ∧ 0 ≤ k ∧ k ≤ 2 ∧ 0 ≤ x ∧ x ≤ 9999) → Post (some (.int (iI (-1)))) (wMd now was kept isk ln sp ls ld tb rd (iI S.2.1.length) (iI (-1)) (iI (-1)) ak vn dy asd lma lim rea sts apr (iI S.2.2.2.1) spo wro num nuA stl spe wan fou) := by
    intro _ hn; rw [if_neg hn] at hK; exact hP1 _ _ (hK _ (isMd.mk hOS hMR))
  refine AW.go (bs := b_Mod_limit) [] 60 t_Mod_limit ?_
  refine ⟨_, v_misPost l, by decide, _, _, _, _, _, _, _, _, _, _, _, _, _, _, _, _, _, _, _, _, _, _, _, _, _, _, _, _, _, _, _, S.1, rfl, hN, hO, o, rfl, ⟨o1, o2⟩, ?_⟩
  refine And.intro (fun h => ?_) (fun h => ?_)
  · rw [zc_beq, decide_eq_false_iff_not] at h; exact fail () (by omega)
  rw [zc_beq, decide_eq_false_iff_not, Classical.not_not] at h
  refine ⟨_, v_in l, by decide, rfl, k, 0, 2, _, _, _, rfl, l_i k1 k2, l_0, l_k 2, ⟨by omega, by omega⟩, ⟨by omega, by omega⟩, ⟨by omega, by omega⟩, ?_⟩
  refine And.intro (fun h => ?_) (fun h => ?_)
  · rw [zc_beq, decide_eq_false_iff_not] at h; exact fail () (by omega)
  rw [zc_beq, decide_eq_false_iff_not, Classical.not_not] at h
  refine ⟨_, v_in l, by decide, rfl, x, 0, 9999, _, _, _, rfl, l_i x1 x2, l_0, l_k 9999, ⟨by omega, by omega⟩, ⟨by omega, by omega⟩, ⟨by omega, by omega⟩, ?_⟩
  refine And.intro (fun h => ?_) (fun h => ?_)
  · rw [zc_beq, decide_eq_false_iff_not] at h; exact fail () (by omega)
  rw [zc_beq, decide_eq_false_iff_not, Classical.not_not] at h
  rw [if_pos (by omega)] at hK
  obtain ⟨p, rfl⟩ : ∃ p : Nat, o = (p : Int) := ⟨o.toNat, by omega⟩
  obtain ⟨j, rfl⟩ : ∃ j : Nat, k = (j : Int) := ⟨k.toNat, by omega⟩
  rw [Int.toNat_natCast, Int.toNat_natCast] at hK
  have hp : p < S.1.1 4 := by omega
  have h4 := hO.2.2.2.2.1 p hp
  have hc := h4.2 (1 + j) (by omega) (by omega)
  have hz := mi_lt' (by omega : 4 < 6) (show p < oX 4 by rw [x_4]; omega) (show 1 + j < oW 4 by rw [w_4]; omega)
  have ei : z_nn 9 0 + z_nn 4 0 * iI (p : Int) + z_nn 1 0 + iI (j : Int) = iI ((mi 4 p (1 + j) : Nat) : Int) := by
    rw [zn_i, zn_i, zn_i, iI_mul, iI_add, iI_add, iI_add]; congr 1; unfold mi mB oW; simp; omega
  have hnow := hN.2.1 4 p (1 + j) (by omega) hp (by rw [w_4]; omega)
  rw [mVal, if_neg (by omega)] at hnow
  show ∃ sp : Sp, _
  rw [ei]
  refine ⟨_, v_mbecomes l, by decide, _, _, _, _, _, _, _, _, _, _, 0, 0, 0, _, _, _, _, _, _, _, _, _, 0, _, _, _, _, _, _, _, _, S, mi 4 p (1 + j), S.1.2.1 4 p (1 + j), x, rfl, rfl, hOS, hMR, hz.2, hnow, ⟨by omega, by omega⟩, ⟨x1, x2⟩, fun e => ?_, fun e was' hW => ?_⟩
  · rw [if_pos e] at hK
    exact hP1 _ _ (hK _ (isMd.mk hOS hMR))
  · rw [if_neg e] at hK
    have hpu := hN.put (by omega) hp (show 1 + j < oW 4 by rw [w_4]; omega) x
    rw [mVal, if_neg (by omega)] at hpu
    refine hP1 _ _ (hK _ (isMd.mk (act_ok hOS (oPut_ok hO ?_)) (hMR.act hpu hW)))
    refine ⟨?_, fun c c1 c2 => ?_⟩
    · show (if 0 = 1 + j then x else S.1.2.1 4 p 0) = -2 ∨ (0 ≤ (if 0 = 1 + j then x else S.1.2.1 4 p 0) ∧ (if 0 = 1 + j then x else S.1.2.1 4 p 0) < (p : Int))
      rw [if_neg (by omega)]; exact h4.1
    · show 0 ≤ (if c = 1 + j then x else S.1.2.1 4 p c) ∧ (if c = 1 + j then x else S.1.2.1 4 p c) ≤ 9999
      split
      · omega
      · exact h4.2 c c1 c2
def sp_mhighest : Sp := sp0 0 (fun as K => ∃ w : Int, as = [.int (iI w)] ∧ 0 ≤ w ∧ w ≤ 2 ∧ K (some (.int (iI (hiS w)))))
set_option maxRecDepth 20000 in
theorem v_mhighest (l : Launch) : z_V l 227 sp_mhighest := by
  refine z_V.ofP (by decide +kernel) ?_
  rintro as σ K Post ⟨rfl, w, rfl, w0, w1, hK⟩ hP1 hP0
  unfold hiS at hK
  refine AW.go (bs := b_Mod_highest) [] 60 t_Mod_highest ?_
  refine And.symm (And.intro (fun h => ?_) (fun h => ?_))
  · rw [zc_ne0 (by omega) (by omega), Classical.not_not] at h
    rw [if_pos h] at hK
    exact hP0 _ hK
  rw [zc_ne0 (by omega) (by omega)] at h
  rw [if_neg h] at hK
  refine And.symm (And.intro (fun h2 => ?_) (fun h2 => ?_))
  · rw [zn_i, zc_ne (by omega) (by omega) (by omega) (by omega), Classical.not_not] at h2
    rw [if_pos (by omega)] at hK
    exact hP0 _ hK
  · rw [zn_i, zc_ne (by omega) (by omega) (by omega) (by omega)] at h2
    rw [if_neg (by omega)] at hK
    exact hP0 _ hK
set_option maxRecDepth 20000 in
theorem v_mset (l : Launch) : z_V l 228 (m2 40 f_set) := by
  refine z_V.ofP (by decide +kernel) ?_
  rintro as σ K Post ⟨S, ⟨hOS, now, was, kept, isk, ln, sp, ls, ld, tb, rd, und, gon, lef, ak, vn, dy, asd, lma, lim, rea, sts, apr, tz, spo, wro, num, nuA, stl, spe, wan, fou, rfl, hMR⟩, w, v, rfl, ⟨w1, w2⟩, ⟨v1, v2⟩, hK⟩ hP1 hP0
  obtain ⟨hN, h2_, rfl, h4_, h5_, h6_, h7_, rfl, rfl, rfl, h11_⟩ := id hMR
  have hO := hOS.1
  have hx4 := hO.2.2.2.2.2.2.2.2.2 4 (by omega)
  rw [x_4] at hx4
  have hx5 := hO.2.2.2.2.2.2.2.2.2 5 (by omega)
  rw [x_5] at hx5
  unfold f_set at hK
  have fail : Unit → ¬ (0 ≤ w ∧ w ≤ 2 ∧ 0 ≤ v ∧ v ≤ hiS w) → Post (some (.int (iI (-1)))) (wMd now was kept isk ln sp ls ld tb rd (iI S.2.1.length) (iI (-1)) (iI (-1)) ak vn dy asd lma lim rea sts apr (iI S.2.2.2.1) spo wro num nuA stl spe wan fou) := by
    intro _ hn; rw [if_neg hn] at hK; exact hP1 _ _ (hK _ (isMd.mk hOS hMR))
  have b0 := hO.2.2.2.2.2.2.1
  have b1 := hO.2.2.2.2.2.2.2.1
  have b2 := hO.2.2.2.2.2.2.2.2.1
  have hir : 0 ≤ hiS w ∧ hiS w ≤ 99 := by unfold hiS; split <;> (try split) <;> omega
  refine AW.go (bs := b_Mod_set) [] 60 t_Mod_set ?_
  refine ⟨_, v_in l, by decide, rfl, w, 0, 2, _, _, _, rfl, l_i w1 w2, l_0, l_k 2, ⟨by omega, by omega⟩, ⟨by omega, by omega⟩, ⟨by omega, by omega⟩, ?_⟩
  refine And.intro (fun h => ?_) (fun h => ?_)
  · rw [zc_beq, decide_eq_false_iff_not] at h; exact fail () (by omega)
  rw [zc_beq, decide_eq_false_iff_not, Classical.not_not] at h
  refine ⟨_, v_mhighest l, by decide, rfl, w, rfl, by omega, by omega, ?_⟩
  refine ⟨_, v_in l, by decide, rfl, v, 0, hiS w, _, _, _, rfl, l_i v1 v2, l_0, l_i (by omega) (by omega), ⟨by omega, by omega⟩, ⟨by omega, by omega⟩, ⟨by omega, by omega⟩, ?_⟩
  refine And.intro (fun h => ?_) (fun h => ?_)
  · rw [zc_beq, decide_eq_false_iff_not] at h; exact fail () (by omega)
  rw [zc_beq, decide_eq_false_iff_not, Classical.not_not] at h
  rw [if_pos (by omega)] at hK
  obtain ⟨j, rfl⟩ : ∃ j : Nat, w = (j : Int) := ⟨w.toNat, by omega⟩
  obtain ⟨x, rfl⟩ : ∃ x : Nat, v = (x : Int) := ⟨v.toNat, by omega⟩
  rw [Int.toNat_natCast, Int.toNat_natCast] at hK
  have hj : j < 3 := by omega
  have hs : S.1.2.2 j ≤ 99 := by
    have : j = 0 ∨ j = 1 ∨ j = 2 := by omega
    rcases this with rfl | rfl | rfl <;> omega
  have ei : z_nn 5 0 + iI (j : Int) = iI ((5 + j : Nat) : Int) := by rw [zn_i, iI_add]; rfl
  show ∃ sp : Sp, _
  rw [ei]
  refine ⟨_, v_mbecomes l, by decide, _, _, _, _, _, _, _, _, _, _, 0, 0, 0, _, _, _, _, _, _, _, _, _, 0, _, _, _, _, _, _, _, _, S, 5 + j, (S.1.2.2 j : Int), (x : Int), rfl, rfl, hOS, hMR, by omega, hN.2.2 j hj, ⟨by omega, by omega⟩, ⟨by omega, by omega⟩, fun e => ?_, fun e was' hW => ?_⟩
  · rw [if_pos e] at hK
    exact hP1 _ _ (hK _ (isMd.mk hOS hMR))
  · rw [if_neg e] at hK
    refine hP1 _ _ (hK _ (isMd.mk (act_ok hOS (oSet_ok hO ?_)) (hMR.act (hN.set hj x) hW)))
    have hv : (x : Int) ≤ hiS j := by omega
    refine ⟨fun e => ?_, fun e => ?_, fun e => ?_⟩
    · rw [e] at hv; have : hiS ((0 : Nat) : Int) = 99 := rfl; omega
    · rw [e] at hv; have : hiS ((1 : Nat) : Int) = 9 := rfl; omega
    · rw [e] at hv; have : hiS ((2 : Nat) : Int) = 30 := rfl; omega
set_option maxRecDepth 20000 in
theorem v_mundo (l : Launch) : z_V l 229 (m0 40 f_undo) := by
  refine z_V.ofP (by decide +kernel) ?_
  rintro as σ K Post ⟨S, ⟨hOS, now, was, kept, isk, ln, sp, ls, ld, tb, rd, und, gon, lef, ak, vn, dy, asd, lma, lim, rea, sts, apr, tz, spo, wro, num, nuA, stl, spe, wan, fou, rfl, hMR⟩, rfl, hK⟩ hP1 hP0
  obtain ⟨hN, h2_, rfl, h4_, h5_, h6_, h7_, rfl, rfl, rfl, h11_⟩ := id hMR
  have hO := hOS.1
  have hx4 := hO.2.2.2.2.2.2.2.2.2 4 (by omega)
  rw [x_4] at hx4
  have hx5 := hO.2.2.2.2.2.2.2.2.2 5 (by omega)
  rw [x_5] at hx5
  have hlen := hOS.2.2.1
  have loop : ∀ (H0 : List Od) (M : Od), S.2.1 = H0 ++ [M] → ∀ (n k : Nat) (x : Int32) (now' : Nat → Int32), n = 657 - k → k ≤ 657 → x = iI (k : Int) → (∀ j, j < k → now' j = was (657 * H0.length + j)) →
      AW l 229 40 0 0 11 none Post 21 [some (.ref 0), some (.int x)] [] (wMd now' was kept isk ln sp ls ld tb rd (iI H0.length) (iI (-1)) (iI (-1)) ak vn dy asd lma lim rea sts apr (iI S.2.2.2.1) spo wro num nuA stl spe wan fou) 0 0 := by
    intro H0 M eH n
    have el : S.2.1.length = H0.length + 1 := by rw [eH]; simp
    unfold f_undo at hK
    rw [eH, List.getLast?_concat, List.dropLast_concat] at hK
    simp only [] at hK
    induction n using Nat.strongRecOn with
    | ind n ih =>
      intro k x now' hn hk e1 h1
      subst e1
      refine AW.go (bs := b_Mod_undo) [21] 60 t_Mod_undo ?_
      refine And.intro (fun h => ?_) (fun h => ?_)
      · rw [zn_i, zc_ge (by omega) (by omega) (by omega) (by omega)] at h
        have : k = 657 := by omega
        subst this
        have hM := h2_ H0.length M (by rw [eH]; simp)
        have := hK (wMd now' was kept isk ln sp ls ld tb rd (iI H0.length) (iI (-1)) (iI (-1)) ak vn dy asd lma lim rea sts apr (iI S.2.2.2.1) spo wro num nuA stl spe wan fou) (isMd.mk ⟨hOS.2.1 M (by rw [eH]; simp), fun M' hM' => hOS.2.1 M' (by rw [eH]; simp; exact Or.inl hM'), by show H0.length ≤ 10; omega, hOS.2.2.2⟩ ⟨hM.cong (fun j hj => h1 j hj), fun i M' hi => h2_ i M' (by rw [eH, List.getElem?_append_left (List.getElem?_eq_some_iff.mp hi).1]; exact hi), rfl, h4_, h5_, h6_, h7_, rfl, rfl, rfl, h11_⟩)
        rw [show (((H0 ++ [M]).length : Nat) : Int) - 1 = (H0.length : Int) by simp] at this
        exact hP1 _ _ this
      rw [zn_i, zc_ge (by omega) (by omega) (by omega) (by omega)] at h
      have ei : z_nn 657 0 * iI (H0.length : Int) + iI (k : Int) = iI ((657 * H0.length + k : Nat) : Int) := by rw [zn_i, iI_mul, iI_add]; rfl
      show _ ∧ _
      rw [ei]
      refine And.intro (zN_in (by omega) (by omega)) ?_
      refine And.intro (zN_in (by omega) (by omega)) ?_
      show AW _ _ _ _ _ _ _ _ _ _ _ _ _ _
      rw [zN_cl (by omega), zN_cl (by omega)]
      refine ih _ (by omega) (k + 1) _ _ rfl (by omega) (zn_inc k) (fun j hj => ?_)
      unfold upd
      by_cases e : j = k
      · rw [if_pos e, e]
      · rw [if_neg e]; exact h1 j (by omega)
  refine AW.go (bs := b_Mod_undo) [21] 60 t_Mod_undo ?_
  refine And.symm (And.intro (fun h => ?_) (fun h => ?_))
  · rw [zc_ne0 (by omega) (by omega), Classical.not_not] at h
    have e : S.2.1 = [] := List.eq_nil_of_length_eq_zero (by omega)
    unfold f_undo at hK
    rw [e] at hK
    exact hP1 _ _ (hK _ (isMd.mk hOS hMR))
  rw [zc_ne0 (by omega) (by omega)] at h
  rcases List.eq_nil_or_concat S.2.1 with e | ⟨H0, M, e⟩
  · rw [e] at h; exact absurd rfl h
  rw [List.concat_eq_append] at e
  have el : S.2.1.length = H0.length + 1 := by rw [e]; simp
  have e2 : iI (S.2.1.length : Int) - z_nn 1 0 = iI (H0.length : Int) := by rw [zn_i, iI_sub, el]; congr 1; omega
  show AW _ _ _ _ _ _ _ _ _ _ _ _ _ _
  rw [e2]
  exact loop H0 M e _ 0 _ _ rfl (by omega) rfl (fun j hj => by omega)
set_option maxRecDepth 20000 in
theorem v_mkeep (l : Launch) : z_V l 230 (m1 40 f_keep) := by
  refine z_V.ofP (by decide +kernel) ?_
  rintro as σ K Post ⟨S, ⟨hOS, now, was, kept, isk, ln, sp, ls, ld, tb, rd, und, gon, lef, ak, vn, dy, asd, lma, lim, rea, sts, apr, tz, spo, wro, num, nuA, stl, spe, wan, fou, rfl, hMR⟩, k, rfl, ⟨k1, k2⟩, hK⟩ hP1 hP0
  obtain ⟨hN, h2_, rfl, h4_, h5_, h6_, h7_, rfl, rfl, rfl, h11_⟩ := id hMR
  have hO := hOS.1
  have hx4 := hO.2.2.2.2.2.2.2.2.2 4 (by omega)
  rw [x_4] at hx4
  have hx5 := hO.2.2.2.2.2.2.2.2.2 5 (by omega)
  rw [x_5] at hx5
  unfold f_keep at hK
  have loop : ∀ (e : Nat), k = (e : Int) → e < 2 → ∀ (n j : Nat) (x : Int32) (kept' : Nat → Int32), n = 657 - j → j ≤ 657 → x = iI (j : Int) → (∀ q, q < j → kept' (657 * e + q) = now q) → (∀ q, q < 657 → kept' (657 * (1 - e) + q) = kept (657 * (1 - e) + q)) →
      AW l 230 40 0 0 11 none Post 14 [some (.ref 0), some (.int (iI k)), some (.int x)] [] (wMd now was kept' isk ln sp ls ld tb rd (iI S.2.1.length) (iI (-1)) (iI (-1)) ak vn dy asd lma lim rea sts apr (iI S.2.2.2.1) spo wro num nuA stl spe wan fou) 0 0 := by
    intro e hke he n
    subst hke
    induction n using Nat.strongRecOn with
    | ind n ih =>
      intro j x kept' hn hj e1 h1 h2
      subst e1
      refine AW.go (bs := b_Mod_keep) [14] 60 t_Mod_keep ?_
      refine And.intro (fun h => ?_) (fun h => ?_)
      · rw [zn_i, zc_ge (by omega) (by omega) (by omega) (by omega)] at h
        have : j = 657 := by omega
        subst this
        refine And.intro (zN_in (by omega) (by omega)) ?_
        refine ⟨_, v_mrequests l, by decide, _, _, _, _, _, _, _, _, _, _, _, _, _, _, _, _, _, _, _, _, _, _, _, _, _, _, _, _, _, _, _, S.1, rfl, hN, hO, rfl, ?_⟩
        show Post _ _
        rw [zN_cl (by omega)]
        have : e = 0 ∨ e = 1 := by omega
        rcases this with rfl | rfl
        · rw [if_pos (by omega)] at hK
          refine hP1 _ _ (hK _ (isMd.mk ⟨hOS.1, hOS.2.1, hOS.2.2.1, fun M e => ?_, hOS.2.2.2.2⟩ ⟨hN, h2_, rfl, fun M e => ?_, fun M e => (h5_ M e).cong (fun q hq => h2 q hq), ?_, ?_, rfl, rfl, rfl, h11_⟩))
          · cases e; exact hO
          · cases e; exact hN.cong (fun q hq => h1 q hq)
          · unfold upd; rw [if_pos rfl]; rfl
          · unfold upd; rw [if_neg (by omega)]; exact h7_
        · rw [if_neg (by omega), if_pos (by omega)] at hK
          refine hP1 _ _ (hK _ (isMd.mk ⟨hOS.1, hOS.2.1, hOS.2.2.1, hOS.2.2.2.1, fun M e => ?_, hOS.2.2.2.2.2⟩ ⟨hN, h2_, rfl, fun M e => (h4_ M e).cong (fun q hq => h2 q hq), fun M e => ?_, ?_, ?_, rfl, rfl, rfl, h11_⟩))
          · cases e; exact hO
          · cases e; exact hN.cong (fun q hq => h1 q hq)
          · unfold upd; rw [if_neg (by omega)]; exact h6_
          · unfold upd; rw [if_pos rfl]; rfl
      rw [zn_i, zc_ge (by omega) (by omega) (by omega) (by omega)] at h
      have ei : z_nn 657 0 * iI (e : Int) + iI (j : Int) = iI ((657 * e + j : Nat) : Int) := by rw [zn_i, iI_mul, iI_add]; rfl
      refine And.intro (zN_in (by omega) (by omega)) ?_
      show _ ∧ _
      rw [ei, zN_cl (by omega : j < 2147483648)]
      refine And.intro (zN_in (by omega) (by omega)) ?_
      show AW _ _ _ _ _ _ _ _ _ _ _ _ _ _
      rw [zN_cl (by omega)]
      refine ih _ (by omega) (j + 1) _ _ rfl (by omega) (zn_inc j) (fun q hq => ?_) (fun q hq => ?_)
      · unfold upd
        by_cases e2 : q = j
        · rw [if_pos (by omega), e2]
        · rw [if_neg (by omega)]; exact h1 q (by omega)
      · unfold upd; rw [if_neg (by omega)]; exact h2 q hq
  refine AW.go (bs := b_Mod_keep) [14] 60 t_Mod_keep ?_
  refine ⟨_, v_in l, by decide, rfl, k, 0, 1, _, _, _, rfl, l_i k1 k2, l_0, l_1, ⟨by omega, by omega⟩, ⟨by omega, by omega⟩, ⟨by omega, by omega⟩, ?_⟩
  refine And.symm (And.intro (fun h => ?_) (fun h => ?_))
  · rw [zc_bne, decide_eq_true_eq] at h
    rw [if_neg (by omega), if_neg (by omega)] at hK
    exact hP1 _ _ (hK _ (isMd.mk hOS hMR))
  rw [zc_bne, decide_eq_true_eq] at h
  obtain ⟨e, rfl⟩ : ∃ e : Nat, k = (e : Int) := ⟨k.toNat, by omega⟩
  exact loop e rfl (by omega) _ 0 _ _ rfl (by omega) rfl (fun q hq => by omega) (fun _ _ => rfl)
set_option maxRecDepth 20000 in
theorem v_mback (l : Launch) : z_V l 231 (m1 40 f_back) := by
  refine z_V.ofP (by decide +kernel) ?_
  rintro as σ K Post ⟨S, ⟨hOS, now, was, kept, isk, ln, sp, ls, ld, tb, rd, und, gon, lef, ak, vn, dy, asd, lma, lim, rea, sts, apr, tz, spo, wro, num, nuA, stl, spe, wan, fou, rfl, hMR⟩, k, rfl, ⟨k1, k2⟩, hK⟩ hP1 hP0
  obtain ⟨hN, h2_, rfl, h4_, h5_, h6_, h7_, rfl, rfl, rfl, h11_⟩ := id hMR
  have hO := hOS.1
  have hx4 := hO.2.2.2.2.2.2.2.2.2 4 (by omega)
  rw [x_4] at hx4
  have hx5 := hO.2.2.2.2.2.2.2.2.2 5 (by omega)
  rw [x_5] at hx5
  have loop : ∀ (e : Nat) (M : Od), k = (e : Int) → e < 2 → RM (rwI kept e) M → OKM M → f_back S k = ((M.1 5 : Int), (M, [], S.2.2)) → ∀ (n j : Nat) (x : Int32) (now' : Nat → Int32), n = 657 - j → j ≤ 657 → x = iI (j : Int) → (∀ q, q < j → now' q = kept (657 * e + q)) →
      AW l 231 40 0 0 11 none Post 26 [some (.ref 0), some (.int (iI k)), some (.int x)] [] (wMd now' was kept isk ln sp ls ld tb rd (iI S.2.1.length) (iI (-1)) (iI (-1)) ak vn dy asd lma lim rea sts apr (iI S.2.2.2.1) spo wro num nuA stl spe wan fou) 0 0 := by
    intro e M hke he hM hOM hf n
    rw [hf] at hK
    subst hke
    induction n using Nat.strongRecOn with
    | ind n ih =>
      intro j x now' hn hj e1 h1
      subst e1
      refine AW.go (bs := b_Mod_back) [26] 60 t_Mod_back ?_
      refine And.intro (fun h => ?_) (fun h => ?_)
      · rw [zn_i, zc_ge (by omega) (by omega) (by omega) (by omega)] at h
        have : j = 657 := by omega
        subst this
        have hN' : RM now' M := hM.cong (fun q hq => h1 q hq)
        refine ⟨_, v_mrequests l, by decide, _, _, _, _, _, _, _, _, _, _, _, _, _, _, _, _, _, _, _, _, _, _, _, _, _, _, _, _, _, _, _, M, rfl, hN', hOM, rfl, ?_⟩
        exact hP1 _ _ (hK _ (isMd.mk ⟨hOM, fun _ h => by simp at h, by simp, hOS.2.2.2⟩ ⟨hN', fun i M h => by simp at h, rfl, h4_, h5_, h6_, h7_, rfl, rfl, rfl, h11_⟩))
      rw [zn_i, zc_ge (by omega) (by omega) (by omega) (by omega)] at h
      have ei : z_nn 657 0 * iI (e : Int) + iI (j : Int) = iI ((657 * e + j : Nat) : Int) := by rw [zn_i, iI_mul, iI_add]; rfl
      show _ ∧ _
      rw [ei]
      refine And.intro (zN_in (by omega) (by omega)) ?_
      refine And.intro (zN_in (by omega) (by omega)) ?_
      show AW _ _ _ _ _ _ _ _ _ _ _ _ _ _
      rw [zN_cl (by omega), zN_cl (by omega)]
      refine ih _ (by omega) (j + 1) _ _ rfl (by omega) (zn_inc j) (fun q hq => ?_)
      unfold upd
      by_cases e2 : q = j
      · rw [if_pos e2, e2]
      · rw [if_neg e2]; exact h1 q (by omega)
  refine AW.go (bs := b_Mod_back) [26] 60 t_Mod_back ?_
  refine ⟨_, v_in l, by decide, rfl, k, 0, 1, _, _, _, rfl, l_i k1 k2, l_0, l_1, ⟨by omega, by omega⟩, ⟨by omega, by omega⟩, ⟨by omega, by omega⟩, ?_⟩
  refine And.symm (And.intro (fun h => ?_) (fun h => ?_))
  · rw [zc_bne, decide_eq_true_eq] at h
    unfold f_back at hK
    rw [if_neg (by omega), if_neg (by omega)] at hK
    exact hP1 _ _ (hK _ (isMd.mk hOS hMR))
  rw [zc_bne, decide_eq_true_eq] at h
  obtain ⟨e, rfl⟩ : ∃ e : Nat, k = (e : Int) := ⟨k.toNat, by omega⟩
  refine And.intro (zN_in (by omega) (by omega)) ?_
  show _ ∧ _
  rw [zN_cl (by omega)]
  have he : e = 0 ∨ e = 1 := by omega
  rcases he with rfl | rfl
  · rw [h6_]
    cases hM : S.2.2.1.1 with
    | none =>
      refine And.symm (And.intro (fun _ => ?_) (fun h => absurd h (fun q => q rfl)))
      have hf : f_back S ((0 : Nat) : Int) = (-2, S) := by unfold f_back; rw [if_pos (by omega), hM]
      rw [hf] at hK
      exact hP1 _ _ (hK _ (isMd.mk hOS hMR))
    | some M =>
      refine And.symm (And.intro (fun h => absurd zt_net h) (fun _ => ?_))
      exact loop 0 M rfl (by omega) (h4_ M hM) (hOS.2.2.2.1 M hM) (by unfold f_back; rw [if_pos (by omega), hM]) _ 0 _ _ rfl (by omega) rfl (fun q hq => by omega)
  · rw [h7_]
    cases hM : S.2.2.1.2 with
    | none =>
      refine And.symm (And.intro (fun _ => ?_) (fun h => absurd h (fun q => q rfl)))
      have hf : f_back S ((1 : Nat) : Int) = (-2, S) := by unfold f_back; rw [if_neg (by omega), if_pos (by omega), hM]
      rw [hf] at hK
      exact hP1 _ _ (hK _ (isMd.mk hOS hMR))
    | some M =>
      refine And.symm (And.intro (fun h => absurd zt_net h) (fun _ => ?_))
      exact loop 1 M rfl (by omega) (h5_ M hM) (hOS.2.2.2.2.1 M hM) (by unfold f_back; rw [if_neg (by omega), if_pos (by omega), hM]) _ 0 _ _ rfl (by omega) rfl (fun q hq => by omega)
def sp_mputs4 : Sp := (0, 0, 0, pMd, fun as σ K => ∃ (now was kept isk ln sp ls ld tb rd : Nat → Int32) (und gon lef ak vn dy asd lma lim rea sts apr tz spo wro num nuA stl spe wan fou : Int32) (n : Nat) (a : Int32), as = [.ref 0, .int a] ∧ σ = (wMd now was kept isk ln sp ls ld tb rd und gon lef ak vn dy asd lma lim rea sts apr (iI n) spo wro num nuA stl spe wan fou) ∧ n + 4 ≤ 400 ∧ ∀ tb', (∀ i, i < n → tb' i = tb i) → (∀ j, j < 4 → tb' (n + j) = bt a j) → K none (some (wMd now was kept isk ln sp ls ld tb' rd und gon lef ak vn dy asd lma lim rea sts apr (iI (n + 4 : Nat)) spo wro num nuA stl spe wan fou)))
set_option maxRecDepth 20000 in
theorem v_mputs4 (l : Launch) : z_V l 232 sp_mputs4 := by
  refine z_V.ofP (by decide +kernel) ?_
  rintro as σ K Post ⟨now, was, kept, isk, ln, sp, ls, ld, tb, rd, und, gon, lef, ak, vn, dy, asd, lma, lim, rea, sts, apr, tz, spo, wro, num, nuA, stl, spe, wan, fou, n, a, rfl, rfl, hn, hK⟩ hP1 hP0
  have loop : ∀ (q k : Nat) (x : Int32) (tb' : Nat → Int32) (z : Int32), q = 4 - k → k ≤ 4 → x = iI (24 - 8 * (k : Int)) → z = iI (n + k : Nat) → (∀ i, i < n → tb' i = tb i) → (∀ j, j < k → tb' (n + j) = bt a j) →
      AW l 232 0 0 0 11 none Post 3 [some (.ref 0), some (.int a), some (.int x)] [] (wMd now was kept isk ln sp ls ld tb' rd und gon lef ak vn dy asd lma lim rea sts apr z spo wro num nuA stl spe wan fou) 0 0 := by
    intro q
    induction q using Nat.strongRecOn with
    | ind q ih =>
      intro k x tb' z hq hk hx hz h1 h2
      subst hx; subst hz
      refine AW.go (bs := b_Mod_puts4) [3] 60 t_Mod_puts4 ?_
      refine And.intro (fun h => ?_) (fun h => ?_)
      · rw [zc_lt0 (by omega) (by omega)] at h
        have : k = 4 := by omega
        subst this
        exact hP1 _ _ (hK tb' h1 h2)
      · rw [zc_lt0 (by omega) (by omega)] at h
        refine And.intro (zN_in (by omega) (by omega)) ?_
        show AW _ _ _ _ _ _ _ _ _ _ _ _ _ _
        rw [zN_cl (by omega)]
        refine ih _ (by omega) (k + 1) _ _ _ rfl (by omega) (by rw [zn_m, iI_add]; congr 1; omega) (zn_inc _) (fun i hi => ?_) (fun j hj => ?_)
        · unfold upd; rw [if_neg (by omega)]; exact h1 i hi
        · unfold upd
          by_cases e : j = k
          · rw [if_pos (by omega), e]; rfl
          · rw [if_neg (by omega)]; exact h2 j (by omega)
  refine AW.go (bs := b_Mod_puts4) [3] 60 t_Mod_puts4 ?_
  exact loop _ 0 _ _ _ rfl (by omega) rfl rfl (fun _ _ => rfl) (fun j hj => by omega)
set_option maxRecDepth 20000 in
theorem v_mfeed (l : Launch) : z_V l 233 (m5 40 f_feed) := by
  refine z_V.ofP (by decide +kernel) ?_
  rintro as σ K Post ⟨S, ⟨hOS, now, was, kept, isk, ln, sp, ls, ld, tb, rd, und, gon, lef, ak, vn, dy, asd, lma, lim, rea, sts, apr, tz, spo, wro, num, nuA, stl, spe, wan, fou, rfl, hMR⟩, a, b, c, d, e, rfl, -, -, -, -, -, hK⟩ hP1 hP0
  obtain ⟨hN, h2_, rfl, h4_, h5_, h6_, h7_, rfl, rfl, rfl, h11_⟩ := id hMR
  have hO := hOS.1
  have hx4 := hO.2.2.2.2.2.2.2.2.2 4 (by omega)
  rw [x_4] at hx4
  have hx5 := hO.2.2.2.2.2.2.2.2.2 5 (by omega)
  rw [x_5] at hx5
  have ht := hOS.2.2.2.2.2
  unfold f_feed at hK
  refine AW.go (bs := b_Mod_feed) [] 90 t_Mod_feed ?_
  refine And.symm (And.intro (fun h => ?_) (fun h => ?_))
  · rw [zn_i, zc_le (by omega) (by omega) (by omega) (by omega)] at h
    rw [if_pos (by omega)] at hK
    exact hP1 _ _ (hK _ (isMd.mk hOS hMR))
  · rw [zn_i, zc_le (by omega) (by omega) (by omega) (by omega)] at h
    rw [if_neg (by omega)] at hK
    refine ⟨_, v_mputs4 l, by decide, _, _, _, _, _, _, _, _, _, _, _, _, _, _, _, _, _, _, _, _, _, _, 0, _, _, _, _, _, _, _, _, S.2.2.2.1, iI a, rfl, rfl, by omega, fun tb1 g1 g2 => ?_⟩
    have h1 := tAdd_eq (T := S.2.2.2) h11_ g1 g2
    refine ⟨_, v_mputs4 l, by decide, _, _, _, _, _, _, _, _, _, _, _, _, _, _, _, _, _, _, _, _, _, _, 0, _, _, _, _, _, _, _, _, S.2.2.2.1 + 4, iI b, rfl, rfl, by omega, fun tb2 g1 g2 => ?_⟩
    have h2 := tAdd_eq h1 g1 g2
    refine ⟨_, v_mputs4 l, by decide, _, _, _, _, _, _, _, _, _, _, _, _, _, _, _, _, _, _, _, _, _, _, 0, _, _, _, _, _, _, _, _, S.2.2.2.1 + 4 + 4, iI c, rfl, rfl, by omega, fun tb3 g1 g2 => ?_⟩
    have h3 := tAdd_eq h2 g1 g2
    refine ⟨_, v_mputs4 l, by decide, _, _, _, _, _, _, _, _, _, _, _, _, _, _, _, _, _, _, _, _, _, _, 0, _, _, _, _, _, _, _, _, S.2.2.2.1 + 4 + 4 + 4, iI d, rfl, rfl, by omega, fun tb4 g1 g2 => ?_⟩
    have h4 := tAdd_eq h3 g1 g2
    refine ⟨_, v_mputs4 l, by decide, _, _, _, _, _, _, _, _, _, _, _, _, _, _, _, _, _, _, _, _, _, _, 0, _, _, _, _, _, _, _, _, S.2.2.2.1 + 4 + 4 + 4 + 4, iI e, rfl, rfl, by omega, fun tb5 g1 g2 => ?_⟩
    have h5 := tAdd_eq h4 g1 g2
    show Post _ _
    rw [show ((S.2.2.2.1 + 4 + 4 + 4 + 4 + 4 : Nat) : Int) = (S.2.2.2.1 : Int) + 20 by omega]
    refine hP1 _ _ (hK _ (isMd.mk ⟨hOS.1, hOS.2.1, hOS.2.2.1, hOS.2.2.2.1, hOS.2.2.2.2.1, ?_⟩ ⟨hN, h2_, rfl, h4_, h5_, h6_, h7_, rfl, rfl, ?_, h5⟩))
    · show S.2.2.2.1 + 4 + 4 + 4 + 4 + 4 ≤ 400
      omega
    · show iI ((S.2.2.2.1 : Int) + 20) = iI ((S.2.2.2.1 + 4 + 4 + 4 + 4 + 4 : Nat) : Int)
      congr 1
set_option maxRecDepth 20000 in
theorem v_mend (l : Launch) : z_V l 234 (m1 40 f_end) := by
  refine z_V.ofP (by decide +kernel) ?_
  rintro as σ K Post ⟨S, ⟨hOS, now, was, kept, isk, ln, sp, ls, ld, tb, rd, und, gon, lef, ak, vn, dy, asd, lma, lim, rea, sts, apr, tz, spo, wro, num, nuA, stl, spe, wan, fou, rfl, hMR⟩, n, rfl, ⟨n1, n2⟩, hK⟩ hP1 hP0
  obtain ⟨hN, h2_, rfl, h4_, h5_, h6_, h7_, rfl, rfl, rfl, h11_⟩ := id hMR
  have hO := hOS.1
  have hx4 := hO.2.2.2.2.2.2.2.2.2 4 (by omega)
  rw [x_4] at hx4
  have hx5 := hO.2.2.2.2.2.2.2.2.2 5 (by omega)
  rw [x_5] at hx5
  have ht := hOS.2.2.2.2.2
  unfold f_end at hK
  refine AW.go (bs := b_Mod_end) [] 60 t_Mod_end ?_
  refine ⟨_, v_in l, by decide, rfl, n, 0, (S.2.2.2.1 : Int), _, _, _, rfl, l_i n1 n2, l_0, l_i (by omega) (by omega), ⟨by omega, by omega⟩, ⟨by omega, by omega⟩, ⟨by omega, by omega⟩, ?_⟩
  refine And.symm (And.intro (fun h => ?_) (fun h => ?_))
  · rw [zc_bne, decide_eq_true_eq] at h
    rw [if_neg h] at hK
    exact hP1 _ _ (hK _ (isMd.mk hOS hMR))
  · rw [zc_bne, decide_eq_true_eq] at h
    rw [if_pos h] at hK
    refine hP1 _ _ (hK _ (isMd.mk ⟨hOS.1, hOS.2.1, hOS.2.2.1, hOS.2.2.2.1, hOS.2.2.2.2.1, ?_⟩ ⟨hN, h2_, rfl, h4_, h5_, h6_, h7_, rfl, rfl, ?_, fun i hi => h11_ i ?_⟩))
    · show n.toNat ≤ 400; omega
    · show iI n = iI ((n.toNat : Nat) : Int); congr 1; omega
    · replace hi : i < n.toNat := hi
      omega
