/-! what the model is asked -/
set_option maxRecDepth 20000 in
theorem v_mpost (l : Launch) : z_V l 183 (m2 40 (qp2 q_post)) := by
  refine z_V.ofP (by decide +kernel) ?_
  rintro as σ K Post ⟨S, ⟨hOS, now, was, kept, isk, ln, sp, ls, ld, tb, rd, und, gon, lef, ak, vn, dy, asd, lma, lim, rea, sts, apr, tz, spo, wro, num, nuA, stl, spe, wan, fou, rfl, hMR⟩, o, c, rfl, ⟨o1, o2⟩, ⟨c1, c2⟩, hK⟩ hP1 hP0
  obtain ⟨hN, h2_, rfl, h4_, h5_, h6_, h7_, rfl, rfl, rfl, h11_⟩ := id hMR
  have hO := hOS.1
  have hx4 := hO.2.2.2.2.2.2.2.2.2 4 (by omega)
  rw [x_4] at hx4
  have hx5 := hO.2.2.2.2.2.2.2.2.2 5 (by omega)
  rw [x_5] at hx5
  unfold qp2 q_post at hK
  simp only [] at hK
  refine AW.go (bs := b_Mod_post) [] 60 t_Mod_post ?_
  refine ⟨_, v_misPost l, by decide, _, _, _, _, _, _, _, _, _, _, _, _, _, _, _, _, _, _, _, _, _, _, _, _, _, _, _, _, _, _, _, S.1, rfl, hN, hO, o, rfl, ⟨o1, o2⟩, ?_⟩
  refine And.symm (And.intro (fun h => ?_) (fun h => ?_))
  · rw [zc_bne, decide_eq_true_eq] at h
    rw [if_neg h] at hK
    exact hP1 _ _ (hK _ (isMd.mk hOS hMR))
  rw [zc_bne, decide_eq_true_eq] at h
  rw [if_pos h] at hK
  obtain ⟨p, rfl⟩ : ∃ p : Nat, o = (p : Int) := ⟨o.toNat, by omega⟩
  rw [Int.toNat_natCast] at hK
  have hp : p < S.1.1 4 := by omega
  have h4 := (hO.2.2.2.2.1 p hp).1
  have ex : ∀ x : Int, 0 ≤ x → x ≤ 20 → iI c = Int32.ofInt x → c = x := fun x h0 h1 e => (iI_inj c1 c2 (by omega) (by omega)).mp e
  have lim3 : ∀ j : Nat, c = (j : Int) → 1 ≤ j → j ≤ 3 → ∀ K' : Option Value → Option (List AE) → Prop, K' (some (.int (iI (S.1.2.1 4 p j)))) none → sp_mlimitOf.2.2.2.2 [.ref 0, .int (iI (p : Int)), .int (iI c - z_nn 1 0)] (wMd now was kept isk ln sp ls ld tb rd (iI S.2.1.length) (iI (-1)) (iI (-1)) ak vn dy asd lma lim rea sts apr (iI S.2.2.2.1) spo wro num nuA stl spe wan fou) K' := by
    intro j hj h1 h3 K' hk
    refine ⟨_, _, _, _, _, _, _, _, _, _, _, _, _, _, _, _, _, _, _, _, _, _, _, _, _, _, _, _, _, _, _, S.1, rfl, hN, hO, p, j - 1, _, rfl, ?_, hp, by omega, ?_⟩
    · rw [hj, zn_i, iI_sub]; congr 1; omega
    · rw [show 1 + (j - 1) = j by omega]; exact hk
  refine And.intro (fun h => ?_) ⟨fun h => ?_, fun h => ?_, fun h => ?_, fun h => ?_, fun h => ?_, fun h => ?_, trivial⟩
  · rw [iI_toInt c1 c2] at h
    rw [if_neg (by omega), if_neg (by omega), if_neg (by omega)] at hK
    exact hP1 _ _ (hK _ (isMd.mk hOS hMR))
  · have h := ex 0 (by omega) (by omega) h
    subst h
    rw [if_pos (by omega)] at hK
    have hu : -1 ≤ upM S.1 p ∧ upM S.1 p < p ∧ (upM S.1 p = -1 ↔ S.1.2.1 4 p 0 = -2) ∧ (upM S.1 p ≠ -1 → upM S.1 p = S.1.2.1 4 p 0) := by unfold upM mVal; split <;> omega
    refine ⟨_, v_mupper l, by decide, _, _, _, _, _, _, _, _, _, _, _, _, _, _, _, _, _, _, _, _, _, _, _, _, _, _, _, _, _, _, _, S.1, rfl, hN, hO, p, rfl, hp, ?_⟩
    refine And.symm (And.intro (fun h => ?_) (fun h => ?_))
    · have h := (zc_eq (b := -1) (by omega) (by omega) (by omega) (by omega)).mp (Classical.not_not.mp h)
      rw [show S.1.2.1 4 p (0 : Int).toNat = -2 from hu.2.2.1.mp h] at hK
      exact hP1 _ _ (hK _ (isMd.mk hOS hMR))
    · have h := mt (zc_eq (a := upM S.1 p) (b := -1) (by omega) (by omega) (by omega) (by omega)).mpr (fun q => h q)
      refine ⟨_, v_mupper l, by decide, _, _, _, _, _, _, _, _, _, _, _, _, _, _, _, _, _, _, _, _, _, _, _, _, _, _, _, _, _, _, _, S.1, rfl, hN, hO, p, rfl, hp, ?_⟩
      rw [show S.1.2.1 4 p (0 : Int).toNat = upM S.1 p from (hu.2.2.2 h).symm] at hK
      exact hP1 _ _ (hK _ (isMd.mk hOS hMR))
  · have h := ex 1 (by omega) (by omega) h
    rw [if_pos (by omega)] at hK
    refine ⟨_, v_mlimitOf l, by decide, lim3 1 h (by omega) (by omega) _ ?_⟩
    rw [show c.toNat = 1 by omega] at hK
    exact hP1 _ _ (hK _ (isMd.mk hOS hMR))
  · have h := ex 2 (by omega) (by omega) h
    rw [if_pos (by omega)] at hK
    refine ⟨_, v_mlimitOf l, by decide, lim3 2 h (by omega) (by omega) _ ?_⟩
    rw [show c.toNat = 2 by omega] at hK
    exact hP1 _ _ (hK _ (isMd.mk hOS hMR))
  · have h := ex 3 (by omega) (by omega) h
    rw [if_pos (by omega)] at hK
    refine ⟨_, v_mlimitOf l, by decide, lim3 3 h (by omega) (by omega) _ ?_⟩
    rw [show c.toNat = 3 by omega] at hK
    exact hP1 _ _ (hK _ (isMd.mk hOS hMR))
  · have h := ex 4 (by omega) (by omega) h
    rw [if_neg (by omega), if_pos h] at hK
    refine ⟨_, v_maboveOf l, by decide, _, _, _, _, _, _, _, _, _, _, _, _, _, _, _, _, _, _, _, _, _, _, _, _, _, _, _, _, _, _, _, S.1, rfl, hN, hO, p, rfl, hp, ?_⟩
    exact hP1 _ _ (hK _ (isMd.mk hOS hMR))
  · have h := ex 5 (by omega) (by omega) h
    rw [if_neg (by omega), if_neg (by omega), if_pos h] at hK
    refine ⟨_, v_mbelowOf l, by decide, _, _, _, _, _, _, _, _, _, _, _, _, _, _, _, _, _, _, _, _, _, _, _, _, _, _, _, _, _, _, _, S.1, rfl, hN, hO, p, rfl, hp, ?_⟩
    exact hP1 _ _ (hK _ (isMd.mk hOS hMR))
set_option maxRecDepth 20000 in
theorem v_mentry (l : Launch) : z_V l 185 (m3 40 (qp3 q_entry)) := by
  refine z_V.ofP (by decide +kernel) ?_
  rintro as σ K Post ⟨S, ⟨hOS, now, was, kept, isk, ln, sp, ls, ld, tb, rd, und, gon, lef, ak, vn, dy, asd, lma, lim, rea, sts, apr, tz, spo, wro, num, nuA, stl, spe, wan, fou, rfl, hMR⟩, d, k, c, rfl, ⟨d1, d2⟩, ⟨k1, k2⟩, ⟨c1, c2⟩, hK⟩ hP1 hP0
  obtain ⟨hN, h2_, rfl, h4_, h5_, h6_, h7_, rfl, rfl, rfl, h11_⟩ := id hMR
  have hO := hOS.1
  have hx4 := hO.2.2.2.2.2.2.2.2.2 4 (by omega)
  rw [x_4] at hx4
  have hx5 := hO.2.2.2.2.2.2.2.2.2 5 (by omega)
  rw [x_5] at hx5
  unfold qp3 q_entry at hK
  simp only [] at hK
  have fail : Unit → ¬ (0 ≤ d ∧ d ≤ 3 ∧ 0 ≤ k ∧ k < S.1.1 d.toNat ∧ 0 ≤ c ∧ c < oW d.toNat) → Post (some (.int (iI (-1)))) (wMd now was kept isk ln sp ls ld tb rd (iI S.2.1.length) (iI (-1)) (iI (-1)) ak vn dy asd lma lim rea sts apr (iI S.2.2.2.1) spo wro num nuA stl spe wan fou) := by
    intro _ hn; rw [if_neg hn] at hK; exact hP1 _ _ (hK _ (isMd.mk hOS hMR))
  refine AW.go (bs := b_Mod_entry) [] 60 t_Mod_entry ?_
  refine ⟨_, v_misEntry l, by decide, _, _, _, _, _, _, _, _, _, _, _, _, _, _, _, _, _, _, _, _, _, _, _, _, _, _, _, _, _, _, _, S.1, rfl, hN, hO, d, k, rfl, ⟨d1, d2⟩, ⟨k1, k2⟩, ?_⟩
  refine And.intro (fun h => ?_) (fun h => ?_)
  · rw [zc_beq, decide_eq_false_iff_not] at h; exact fail () (by omega)
  rw [zc_beq, decide_eq_false_iff_not, Classical.not_not] at h
  obtain ⟨e, rfl⟩ : ∃ e : Nat, d = (e : Int) := ⟨d.toNat, by omega⟩
  rw [Int.toNat_natCast] at fail hK h
  have hw7 : oW e ≤ 7 := by
    have key : ∀ d, d < 6 → oW d ≤ 7 := by decide +kernel
    exact key e (by omega)
  refine ⟨_, v_mlongOf l, by decide, rfl, e, rfl, by omega, ?_⟩
  show ∃ sp : Sp, _
  rw [zn_i 1, iI_sub]
  refine ⟨_, v_in l, by decide, rfl, c, 0, (oW e : Int) - 1, _, _, _, rfl, l_i c1 c2, l_0, l_i (by omega) (by omega), ⟨by omega, by omega⟩, ⟨by omega, by omega⟩, ⟨by omega, by omega⟩, ?_⟩
  refine And.intro (fun h => ?_) (fun h => ?_)
  · rw [zc_beq, decide_eq_false_iff_not] at h; exact fail () (by omega)
  rw [zc_beq, decide_eq_false_iff_not, Classical.not_not] at h
  rw [if_pos (by omega)] at hK
  obtain ⟨i, rfl⟩ : ∃ i : Nat, k = (i : Int) := ⟨k.toNat, by omega⟩
  obtain ⟨j, rfl⟩ : ∃ j : Nat, c = (j : Int) := ⟨c.toNat, by omega⟩
  rw [Int.toNat_natCast, Int.toNat_natCast] at hK
  refine ⟨_, v_mentryOf l, by decide, _, _, _, _, _, _, _, _, _, _, _, _, _, _, _, _, _, _, _, _, _, _, _, _, _, _, _, _, _, _, _, S.1, rfl, hN, hO, e, i, j, rfl, by omega, by omega, by omega, ?_⟩
  exact hP1 _ _ (hK _ (isMd.mk hOS hMR))
/-! how many bits -/
theorem low_bit {v : Nat} (h : v ≠ 0) : ∃ k q : Nat, v = 2 ^ (k + 1) * q + 2 ^ k := by
  induction v using Nat.strongRecOn with
  | ind v ih =>
    rcases Nat.mod_two_eq_zero_or_one v with e | e
    · obtain ⟨k, q, hk⟩ := ih (v / 2) (by omega) (by omega)
      refine ⟨k + 1, q, ?_⟩
      have : v = 2 * (v / 2) := by omega
      rw [this, hk, Nat.mul_add, ← Nat.mul_assoc, ← Nat.pow_succ', ← Nat.pow_succ']
    · exact ⟨0, v / 2, by simp; omega⟩
theorem and_pred_test {v : Nat} (h : v ≠ 0) : ∃ k, v.testBit k = true ∧ ∀ i, v.testBit i = ((v &&& (v - 1)).testBit i || decide (k = i)) ∧ (v &&& (v - 1)).testBit k = false := by
  obtain ⟨k, q, rfl⟩ := low_bit h
  have h1 : 2 ^ (k + 1) * q + 2 ^ k - 1 = 2 ^ (k + 1) * q + (2 ^ k - 1) := by have := Nat.two_pow_pos k; omega
  have hlt : 2 ^ k < 2 ^ (k + 1) := Nat.pow_lt_pow_right (by decide) (by omega)
  have t1 : ∀ i, (2 ^ (k + 1) * q + 2 ^ k).testBit i = if i < k + 1 then decide (k = i) else q.testBit (i - (k + 1)) := by
    intro i; rw [Nat.testBit_two_pow_mul_add q hlt, Nat.testBit_two_pow]
  have t2 : ∀ i, (2 ^ (k + 1) * q + (2 ^ k - 1)).testBit i = if i < k + 1 then decide (i < k) else q.testBit (i - (k + 1)) := by
    intro i; rw [Nat.testBit_two_pow_mul_add q (by omega), Nat.testBit_two_pow_sub_one]
  have ka : (2 ^ (k + 1) * q + 2 ^ k &&& (2 ^ (k + 1) * q + 2 ^ k - 1)).testBit k = false := by
    rw [h1, Nat.testBit_and, t1, t2, if_pos (by omega), if_pos (by omega), decide_eq_false (Nat.lt_irrefl k), Bool.and_false]
  refine ⟨k, by rw [t1, if_pos (by omega)]; simp, fun i => ⟨?_, ka⟩⟩
  rw [h1, Nat.testBit_and, t1, t2]
  by_cases hi : i < k + 1
  · rw [if_pos hi, if_pos hi]
    by_cases e : k = i
    · simp [e]
    · simp [e]
  · rw [if_neg hi, if_neg hi, decide_eq_false (by omega)]; simp
theorem cntF_pred {v n : Nat} (h : v ≠ 0) (hv : v < 2 ^ n) : cntF v.testBit n = cntF (v &&& (v - 1)).testBit n + 1 := by
  obtain ⟨k, h1, h2⟩ := and_pred_test h
  have hk : k < n := by
    apply Nat.lt_of_not_le
    intro q
    rw [Nat.testBit_lt_two_pow (Nat.lt_of_lt_of_le hv (Nat.pow_le_pow_right (by decide) q))] at h1
    cases h1
  have := cntF_add (P := (v &&& (v - 1)).testBit) (P' := v.testBit) (h2 k).2 (fun i => (h2 i).1) n
  rw [if_pos hk] at this
  exact this
def sp_mbits : Sp := sp0 0 (fun as K => ∃ m : Nat, as = [.long (lN m)] ∧ m < 2 ^ 62 ∧ K (some (.int (iI (cntF m.testBit 62 : Nat)))))
set_option maxRecDepth 20000 in
theorem v_mbits (l : Launch) : z_V l 173 sp_mbits := by
  refine z_V.ofP (by decide +kernel) ?_
  rintro as σ K Post ⟨rfl, m, rfl, hm, hK⟩ hP1 hP0
  have loop : ∀ (v n : Nat) (x : Int32) (y : Int64), v < 2 ^ 62 → x = iI (n : Int) → y = lN v → n + cntF v.testBit 62 = cntF m.testBit 62 → AW l 173 0 0 0 0 none Post 4 [some (.long (lN m)), none, some (.int x), some (.long y), none] [] [] 0 0 := by
    intro v
    induction v using Nat.strongRecOn with
    | ind v ih =>
      intro n x y hv ex ey hc
      subst ex; subst ey
      refine AW.go (bs := b_Mod_bits) [4] 60 t_Mod_bits ?_
      have e0 : (lN (0 : Fin 2).val) = lN 0 := rfl
      have hz : z_cond .eq (lg_cmp (lN v) (lN (0 : Fin 2).val)) 0 ↔ v = 0 := by
        show lg_cmp _ _ = 0 ↔ _
        rw [lg_eq0, e0, lI_lN, lI_lN, lI_inj (by omega) (by omega) (by omega) (by omega)]
        omega
      refine And.intro (fun h => ?_) (fun h => ?_)
      · rw [hz] at h
        subst h
        have : cntF (0 : Nat).testBit 62 = 0 := by decide
        rw [this, Nat.add_zero] at hc
        rw [← hc] at hK
        exact hP0 _ hK
      rw [hz] at h
      have hle : v &&& (v - 1) ≤ v - 1 := Nat.and_le_right
      have hp := cntF_pred h hv
      refine ih (v &&& (v - 1)) (by omega) (n + 1) _ _ (by omega) (zn_inc n) ?_ (by omega)
      rw [show (lN (1 : Fin 2).val) = lN 1 from rfl, lI_lN v, lI_lN 1, lI_sub, ← lI_lN v, show ((v : Int) - ((1 : Nat) : Int)) = ((v - 1 : Nat) : Int) by omega, ← lI_lN, zl_and (by omega) (by omega)]
  refine AW.go (bs := b_Mod_bits) [4] 60 t_Mod_bits ?_
  exact loop m 0 _ _ hm rfl rfl (by omega)
def sp_mjoined : Sp := spMd 36 (fun S as K => ∃ r : Int, as = [.ref 0, .int (iI r)] ∧ ir r ∧ K (some (.long (lI (q_joined S.1 r)))) S)
set_option maxRecDepth 20000 in
theorem v_mjoined (l : Launch) : z_V l 187 sp_mjoined := by
  refine z_V.ofP (by decide +kernel) ?_
  rintro as σ K Post ⟨S, ⟨hOS, now, was, kept, isk, ln, sp, ls, ld, tb, rd, und, gon, lef, ak, vn, dy, asd, lma, lim, rea, sts, apr, tz, spo, wro, num, nuA, stl, spe, wan, fou, rfl, hMR⟩, r, rfl, ⟨r1, r2⟩, hK⟩ hP1 hP0
  obtain ⟨hN, h2_, rfl, h4_, h5_, h6_, h7_, rfl, rfl, rfl, h11_⟩ := id hMR
  have hO := hOS.1
  have hx4 := hO.2.2.2.2.2.2.2.2.2 4 (by omega)
  rw [x_4] at hx4
  have hx5 := hO.2.2.2.2.2.2.2.2.2 5 (by omega)
  rw [x_5] at hx5
  unfold q_joined at hK
  refine AW.go (bs := b_Mod_joined) [] 60 t_Mod_joined ?_
  refine ⟨_, v_misRequest l, by decide, _, _, _, _, _, _, _, _, _, _, _, _, _, _, _, _, _, _, _, _, _, _, _, _, _, _, _, _, _, _, _, S.1, rfl, hN, hO, r, rfl, ⟨r1, r2⟩, ?_⟩
  refine And.intro (fun h => ?_) (fun h => ?_)
  · rw [zc_beq, decide_eq_false_iff_not] at h
    rw [if_neg h] at hK
    exact hP1 _ _ (hK _ (isMd.mk hOS hMR))
  rw [zc_beq, decide_eq_false_iff_not, Classical.not_not] at h
  rw [if_pos h] at hK
  obtain ⟨k, rfl⟩ : ∃ k : Nat, r = (k : Int) := ⟨r.toNat, by omega⟩
  rw [Int.toNat_natCast] at hK
  refine ⟨_, v_mjoinedTo l, by decide, _, _, _, _, _, _, _, _, _, _, _, _, _, _, _, _, _, _, _, _, _, _, _, _, _, _, _, _, _, _, _, S.1, rfl, hN, hO, k, rfl, by omega, ?_⟩
  show Post _ _
  rw [lI_lN]
  exact hP1 _ _ (hK _ (isMd.mk hOS hMR))
set_option maxRecDepth 20000 in
theorem v_masked (l : Launch) : z_V l 186 (m2 40 (qp2 q_asked)) := by
  refine z_V.ofP (by decide +kernel) ?_
  rintro as σ K Post ⟨S, ⟨hOS, now, was, kept, isk, ln, sp, ls, ld, tb, rd, und, gon, lef, ak, vn, dy, asd, lma, lim, rea, sts, apr, tz, spo, wro, num, nuA, stl, spe, wan, fou, rfl, hMR⟩, r, c, rfl, ⟨r1, r2⟩, ⟨c1, c2⟩, hK⟩ hP1 hP0
  obtain ⟨hN, h2_, rfl, h4_, h5_, h6_, h7_, rfl, rfl, rfl, h11_⟩ := id hMR
  have hO := hOS.1
  have hx4 := hO.2.2.2.2.2.2.2.2.2 4 (by omega)
  rw [x_4] at hx4
  have hx5 := hO.2.2.2.2.2.2.2.2.2 5 (by omega)
  rw [x_5] at hx5
  unfold qp2 q_asked at hK
  simp only [] at hK
  refine AW.go (bs := b_Mod_asked) [60] 60 t_Mod_asked ?_
  refine ⟨_, v_misRequest l, by decide, _, _, _, _, _, _, _, _, _, _, _, _, _, _, _, _, _, _, _, _, _, _, _, _, _, _, _, _, _, _, _, S.1, rfl, hN, hO, r, rfl, ⟨r1, r2⟩, ?_⟩
  refine And.symm (And.intro (fun h => ?_) (fun h => ?_))
  · rw [zc_bne, decide_eq_true_eq] at h
    rw [if_neg h] at hK
    exact hP1 _ _ (hK _ (isMd.mk hOS hMR))
  rw [zc_bne, decide_eq_true_eq] at h
  rw [if_pos h] at hK
  obtain ⟨k, rfl⟩ : ∃ k : Nat, r = (k : Int) := ⟨r.toNat, by omega⟩
  rw [Int.toNat_natCast] at hK
  have hr : k < S.1.1 5 := by omega
  have ex : ∀ x : Int, 0 ≤ x → x ≤ 20 → iI c = Int32.ofInt x → c = x := fun x h0 h1 e => (iI_inj c1 c2 (by omega) (by omega)).mp e
  have cell : 0 ≤ c ∧ c ≤ 6 → AW l 186 40 0 0 11 none Post 60 [some (.ref 0), some (.int (iI (k : Int))), some (.int (iI c))] [] (wMd now was kept isk ln sp ls ld tb rd (iI S.2.1.length) (iI (-1)) (iI (-1)) ak vn dy asd lma lim rea sts apr (iI S.2.2.2.1) spo wro num nuA stl spe wan fou) 0 0 := by
    intro hc
    rw [if_pos hc] at hK
    obtain ⟨j, rfl⟩ : ∃ j : Nat, c = (j : Int) := ⟨c.toNat, by omega⟩
    rw [Int.toNat_natCast] at hK
    refine AW.go (bs := b_Mod_asked) [] 60 t_Mod_asked ?_
    refine ⟨_, v_mof l, by decide, _, _, _, _, _, _, _, _, _, _, _, _, _, _, _, _, _, _, _, _, _, _, _, _, _, _, _, _, _, _, _, S.1, rfl, hN, hO, k, j, rfl, hr, by omega, ?_⟩
    exact hP1 _ _ (hK _ (isMd.mk hOS hMR))
  refine And.intro (fun h => ?_) ⟨fun h => ?_, fun h => ?_, fun h => ?_, fun h => ?_, fun h => ?_, fun h => ?_, fun h => ?_, fun h => ?_, fun h => ?_, trivial⟩
  · rw [iI_toInt c1 c2] at h
    rw [if_neg (by omega), if_neg (by omega), if_neg (by omega)] at hK
    exact hP1 _ _ (hK _ (isMd.mk hOS hMR))
  · have h := ex 0 (by omega) (by omega) h; exact cell (by omega)
  · have h := ex 1 (by omega) (by omega) h; exact cell (by omega)
  · have h := ex 2 (by omega) (by omega) h; exact cell (by omega)
  · have h := ex 3 (by omega) (by omega) h; exact cell (by omega)
  · have h := ex 4 (by omega) (by omega) h; exact cell (by omega)
  · have h := ex 5 (by omega) (by omega) h; exact cell (by omega)
  · have h := ex 6 (by omega) (by omega) h; exact cell (by omega)
  · have h := ex 7 (by omega) (by omega) h
    rw [if_neg (by omega), if_pos h] at hK
    refine ⟨_, v_mwholeOf l, by decide, _, _, _, _, _, _, _, _, _, _, _, _, _, _, _, _, _, _, _, _, _, _, _, _, _, _, _, _, _, _, _, S.1, rfl, hN, hO, k, rfl, hr, ?_⟩
    exact hP1 _ _ (hK _ (isMd.mk hOS hMR))
  · have h := ex 8 (by omega) (by omega) h
    rw [if_neg (by omega), if_neg (by omega), if_pos h] at hK
    refine ⟨_, v_mjoinedTo l, by decide, _, _, _, _, _, _, _, _, _, _, _, _, _, _, _, _, _, _, _, _, _, _, _, _, _, _, _, _, _, _, _, S.1, rfl, hN, hO, k, rfl, hr, ?_⟩
    refine ⟨_, v_mbits l, by decide, rfl, _, rfl, jm62 hO hr _, ?_⟩
    exact hP1 _ _ (hK _ (isMd.mk hOS hMR))
