/-! the model: requests that are joined -/
theorem zl_xor {a b : Nat} (ha : a < 2 ^ 64) (hb : b < 2 ^ 64) : lN a ^^^ lN b = lN (a ^^^ b) := by
  apply zl_inj
  rw [Int64.toBitVec_xor, zl_tb, zl_tb, zl_tb]
  apply BitVec.eq_of_toNat_eq
  rw [BitVec.toNat_xor, BitVec.toNat_ofNat, BitVec.toNat_ofNat, BitVec.toNat_ofNat, Nat.mod_eq_of_lt ha, Nat.mod_eq_of_lt hb, Nat.mod_eq_of_lt (Nat.xor_lt_two_pow ha hb)]
theorem lI_sub (a b : Int) : lI a - lI b = lI (a - b) := (Int64.ofInt_sub a b).symm
/-- a bit of a long set -/
theorem zl_one (b : Bool) : z_cond .eq (lg_cmp (lN (if b then 1 else 0)) (lN 1)) 0 ↔ b = true := by
  show lg_cmp _ _ = 0 ↔ _
  rw [lg_eq0]
  cases b <;> decide
theorem zl_one' (b : Bool) : z_cond .ne (lg_cmp (lN (if b then 1 else 0)) (lN 1)) 0 ↔ b = false := by
  show ¬ lg_cmp _ _ = 0 ↔ _
  rw [lg_eq0]
  cases b <;> decide
def sp_mmayJoin : Sp := spN 1 (fun M _ _ _ _ _ as K => ∃ (o r : Nat), as = [.ref 0, .int (iI o), .int (iI r)] ∧ o < M.1 5 ∧ r < M.1 5 ∧ K (some (.int (bI (cj M o r (M.2.1 5 r 5))))))
set_option maxRecDepth 20000 in
theorem v_mmayJoin (l : Launch) : z_V l 171 sp_mmayJoin := by
  refine z_V.ofP (by decide +kernel) ?_
  rintro as σ K Post ⟨now, was, kept, isk, ln, sp, ls, ld, tb, rd, und, gon, lef, ak, vn, dy, asd, lma, lim, rea, sts, apr, tz, spo, wro, num, nuA, stl, spe, wan, fou, M, rfl, hN, hO, o, r, rfl, ho, hr, hK⟩ hP1 hP0
  have a := hO.2.2.2.2.2.1 o ho
  have b := hO.2.2.2.2.2.1 r hr
  have of : ∀ (o c : Nat), o < M.1 5 → c < 7 → ∀ K : Option Value → Option (List AE) → Prop, K (some (.int (iI (M.2.1 5 o c)))) none → sp_mof.2.2.2.2 [.ref 0, .int (iI o), .int (iI c)] (wMd now was kept isk ln sp ls ld tb rd und gon lef ak vn dy asd lma lim rea sts apr tz spo wro num nuA stl spe wan fou) K := fun o c h1 h2 K hk => ⟨_, _, _, _, _, _, _, _, _, _, _, _, _, _, _, _, _, _, _, _, _, _, _, _, _, _, _, _, _, _, _, M, rfl, hN, hO, o, c, rfl, h1, h2, hk⟩
  unfold cj at hK
  have tail : ∀ (z : Int32) (e : Bool), z = bI e → e = (decide (M.2.1 5 o 0 = M.2.1 5 r 0) && (decide (M.2.1 5 o 2 = M.2.1 5 r 2) && decide (M.2.1 5 o 3 = M.2.1 5 r 3))) → AW l 171 1 0 0 11 none Post 50 [some (.ref 0), some (.int (iI o)), some (.int (iI r)), none] [.int z] (wMd now was kept isk ln sp ls ld tb rd und gon lef ak vn dy asd lma lim rea sts apr tz spo wro num nuA stl spe wan fou) 0 0 := by
    intro z e hz he
    subst hz
    have hK' : K (some (.int (bI (e && (decide (M.2.1 5 o 6 = -2) || decide (M.2.1 5 r 5 < M.2.1 5 o 6)))))) none := by
      rw [he, Bool.and_assoc, Bool.and_assoc]; exact hK
    refine AW.go (bs := b_Mod_mayJoin) [] 90 t_Mod_mayJoin ?_
    refine And.intro (fun h => ?_) (fun h => ?_)
    · rw [zc_beq] at h
      rw [h, Bool.false_and] at hK'
      exact And.intro (Or.inl rfl) (hP0 _ hK')
    rw [zc_beq, Bool.not_eq_false] at h
    rw [h, Bool.true_and] at hK'
    refine ⟨_, v_mof l, by decide, of o 6 ho (by omega) _ ?_⟩
    refine And.intro (fun h => ?_) (fun h => ?_)
    · have h := (zc_eq (b := -2) (by omega) (by omega) (by omega) (by omega)).mp h
      rw [decide_eq_true h, Bool.true_or] at hK'
      exact And.intro (Or.inr rfl) (hP0 _ hK')
    have h := mt (zc_eq (a := M.2.1 5 o 6) (b := -2) (by omega) (by omega) (by omega) (by omega)).mpr h
    rw [decide_eq_false h, Bool.false_or] at hK'
    refine ⟨_, v_mof l, by decide, of o 6 ho (by omega) _ ?_⟩
    refine ⟨_, v_mof l, by decide, of r 5 hr (by omega) _ ?_⟩
    refine And.intro (fun h2 => ?_) (fun h2 => ?_)
    · rw [zc_le (by omega) (by omega) (by omega) (by omega)] at h2
      rw [decide_eq_false (by omega)] at hK'
      exact And.intro (Or.inl rfl) (hP0 _ hK')
    · rw [zc_le (by omega) (by omega) (by omega) (by omega)] at h2
      rw [decide_eq_true (by omega)] at hK'
      exact And.intro (Or.inr rfl) (hP0 _ hK')
  refine AW.go (bs := b_Mod_mayJoin) [50] 90 t_Mod_mayJoin ?_
  refine ⟨_, v_mof l, by decide, of o 0 ho (by omega) _ ?_⟩
  refine ⟨_, v_mof l, by decide, of r 0 hr (by omega) _ ?_⟩
  refine And.intro (fun h => ?_) (fun h => ?_)
  · rw [zc_ne (by omega) (by omega) (by omega) (by omega)] at h
    exact tail _ false rfl (by rw [decide_eq_false h, Bool.false_and])
  rw [zc_ne (by omega) (by omega) (by omega) (by omega), Classical.not_not] at h
  refine ⟨_, v_mof l, by decide, of o 2 ho (by omega) _ ?_⟩
  refine ⟨_, v_mof l, by decide, of r 2 hr (by omega) _ ?_⟩
  refine And.intro (fun h2 => ?_) (fun h2 => ?_)
  · rw [zc_ne (by omega) (by omega) (by omega) (by omega)] at h2
    exact tail _ false rfl (by rw [decide_eq_false h2, Bool.false_and, Bool.and_false])
  rw [zc_ne (by omega) (by omega) (by omega) (by omega), Classical.not_not] at h2
  refine ⟨_, v_mof l, by decide, of o 3 ho (by omega) _ ?_⟩
  refine ⟨_, v_mof l, by decide, of r 3 hr (by omega) _ ?_⟩
  refine And.intro (fun h3 => ?_) (fun h3 => ?_)
  · rw [zc_ne (by omega) (by omega) (by omega) (by omega)] at h3
    exact tail _ false rfl (by rw [decide_eq_false h3, Bool.and_false, Bool.and_false])
  · rw [zc_ne (by omega) (by omega) (by omega) (by omega), Classical.not_not] at h3
    exact tail _ true rfl (by rw [decide_eq_true h, decide_eq_true h2, decide_eq_true h3]; rfl)
def nr1 (M : Od) (o m k : Nat) : Bool := m.testBit k && decide (M.2.1 5 k 5 - (M.2.2 0 : Int) ≤ M.2.1 5 o 5 ∧ M.2.1 5 o 5 ≤ M.2.1 5 k 5 + (M.2.2 0 : Int))
def sp_misNear : Sp := spN 1 (fun M _ _ _ _ _ as K => ∃ (o r m : Nat), as = [.ref 0, .int (iI o), .int (iI r), .long (lN m)] ∧ o < M.1 5 ∧ r < M.1 5 ∧ m < 2 ^ 62 ∧ K (some (.int (bI ((List.range (r + 1)).any (nr1 M o m))))))
set_option maxRecDepth 20000 in
theorem v_misNear (l : Launch) : z_V l 172 sp_misNear := by
  refine z_V.ofP (by decide +kernel) ?_
  rintro as σ K Post ⟨now, was, kept, isk, ln, sp, ls, ld, tb, rd, und, gon, lef, ak, vn, dy, asd, lma, lim, rea, sts, apr, tz, spo, wro, num, nuA, stl, spe, wan, fou, M, rfl, hN, hO, o, r, m, rfl, ho, hr, hm, hK⟩ hP1 hP0
  have hx := hO.mx 5 (by omega)
  have b0 := hO.2.2.2.2.2.2.1
  have a := hO.2.2.2.2.2.1 o ho
  have of : ∀ (o c : Nat), o < M.1 5 → c < 7 → ∀ K : Option Value → Option (List AE) → Prop, K (some (.int (iI (M.2.1 5 o c)))) none → sp_mof.2.2.2.2 [.ref 0, .int (iI o), .int (iI c)] (wMd now was kept isk ln sp ls ld tb rd und gon lef ak vn dy asd lma lim rea sts apr tz spo wro num nuA stl spe wan fou) K := fun o c h1 h2 K hk => ⟨_, _, _, _, _, _, _, _, _, _, _, _, _, _, _, _, _, _, _, _, _, _, _, _, _, _, _, _, _, _, _, M, rfl, hN, hO, o, c, rfl, h1, h2, hk⟩
  have hw : now 5 = iI (M.2.2 0 : Nat) := hN.2.2 0 (by omega)
  have loop : ∀ (n k : Nat) (x : Int32), n = r + 1 - k → k ≤ r + 1 → x = iI (k : Int) → (∀ i, i < k → nr1 M o m i = false) →
      AW l 172 1 0 0 11 none Post 3 [some (.ref 0), some (.int (iI o)), some (.int (iI r)), some (.long (lN m)), none, some (.int x)] [] (wMd now was kept isk ln sp ls ld tb rd und gon lef ak vn dy asd lma lim rea sts apr tz spo wro num nuA stl spe wan fou) 0 0 := by
    intro n
    induction n using Nat.strongRecOn with
    | ind n ih =>
      intro k x hn hk e1 hh
      subst e1
      have next : nr1 M o m k = false → ∀ i, i < k + 1 → nr1 M o m i = false := by
        intro h0 i hi
        rcases Nat.lt_or_ge i k with q | q
        · exact hh i q
        · rw [show i = k by omega]; exact h0
      refine AW.go (bs := b_Mod_isNear) [3] 90 t_Mod_isNear ?_
      refine And.intro (fun h => ?_) (fun h => ?_)
      · rw [zc_gt (by omega) (by omega) (by omega) (by omega)] at h
        rw [any_range_false (fun i hi => hh i (by omega))] at hK
        exact And.intro (Or.inl rfl) (hP0 _ hK)
      rw [zc_gt (by omega) (by omega) (by omega) (by omega)] at h
      have hk5 : k < M.1 5 := by omega
      have c := hO.2.2.2.2.2.1 k hk5
      show _ ∧ _
      rw [show (lN (1 : Fin 2).val) = lN 1 from rfl, zl_bit hm (by omega)]
      refine And.intro (fun h2 => ?_) (fun h2 => ?_)
      · rw [zl_one'] at h2
        exact ih _ (by omega) (k + 1) _ rfl (by omega) (zn_inc k) (next (by rw [nr1, h2, Bool.false_and]))
      rw [zl_one', Bool.not_eq_false] at h2
      refine ⟨_, v_mof l, by decide, of o 5 ho (by omega) _ ?_⟩
      refine ⟨_, v_mof l, by decide, of k 5 hk5 (by omega) _ ?_⟩
      refine And.intro (zn_in (by omega) (by omega)) ?_
      refine ⟨_, v_mof l, by decide, of k 5 hk5 (by omega) _ ?_⟩
      refine And.intro (zn_in (by omega) (by omega)) ?_
      show ∃ sp : Sp, _
      rw [zn_cl (by omega), hw, iI_sub, iI_add]
      refine ⟨_, v_in l, by decide, rfl, M.2.1 5 o 5, M.2.1 5 k 5 - (M.2.2 0 : Int), M.2.1 5 k 5 + (M.2.2 0 : Int), _, _, _, rfl, l_i (by omega) (by omega), l_i (by omega) (by omega), l_i (by omega) (by omega), ⟨by omega, by omega⟩, ⟨by omega, by omega⟩, ⟨by omega, by omega⟩, ?_⟩
      refine And.intro (fun h3 => ?_) (fun h3 => ?_)
      · rw [zc_beq] at h3
        exact ih _ (by omega) (k + 1) _ rfl (by omega) (zn_inc k) (next (by rw [nr1, h3, Bool.and_false]))
      · rw [zc_beq, Bool.not_eq_false] at h3
        rw [any_range_true (i := k) (by omega) (by rw [nr1, h2, h3]; rfl)] at hK
        exact And.intro (Or.inr rfl) (hP0 _ hK)
  refine AW.go (bs := b_Mod_isNear) [3] 90 t_Mod_isNear ?_
  exact loop _ 0 _ rfl (by omega) rfl (fun i hi => by omega)
def sp_mjoinedTo : Sp := spN 2 (fun M _ _ _ _ _ as K => ∃ (r : Nat), as = [.ref 0, .int (iI r)] ∧ r < M.1 5 ∧ K (some (.long (lN (jm M r (M.2.1 5 r 5))))))
set_option maxRecDepth 20000 in
theorem v_mjoinedTo (l : Launch) : z_V l 170 sp_mjoinedTo := by
  refine z_V.ofP (by decide +kernel) ?_
  rintro as σ K Post ⟨now, was, kept, isk, ln, sp, ls, ld, tb, rd, und, gon, lef, ak, vn, dy, asd, lma, lim, rea, sts, apr, tz, spo, wro, num, nuA, stl, spe, wan, fou, M, rfl, hN, hO, r, rfl, hr, hK⟩ hP1 hP0
  have hx := hO.mx 5 (by omega)
  have hr62 : 2 ^ r < 2 ^ 62 := Nat.pow_lt_pow_right (by decide) (by omega)
  have hbig : ∀ {B : Nat}, (∀ i, B.testBit i = true → i < r) → B < 2 ^ 62 ∧ B ||| 2 ^ r < 2 ^ 62 := by
    intro B hB
    have h1 : B < 2 ^ 62 := Nat.lt_of_lt_of_le (mask_lt hB) (Nat.pow_le_pow_right (by decide) (by omega))
    exact ⟨h1, Nat.or_lt_two_pow h1 hr62⟩
  -- near to one of the set, or to the day itself
  have nrI : ∀ (B o : Nat), (∀ i, B.testBit i = true → i < r) → ((List.range (r + 1)).any (nr1 M o (B ||| 2 ^ r)) = true ↔ (nearW M (M.2.1 5 o 5) (M.2.1 5 r 5) ∨ ∃ i, B.testBit i = true ∧ nearW M (M.2.1 5 o 5) (M.2.1 5 i 5))) := by
    intro B o hB
    rw [List.any_eq_true]
    constructor
    · rintro ⟨k, h1, h2⟩
      rw [nr1, Bool.and_eq_true, decide_eq_true_iff, zb_test, Bool.or_eq_true, decide_eq_true_iff] at h2
      rcases h2.1 with q | q
      · exact Or.inr ⟨k, q, h2.2⟩
      · subst q; exact Or.inl h2.2
    · rintro (h | ⟨i, h1, h2⟩)
      · exact ⟨r, List.mem_range.mpr (by omega), by rw [nr1, Bool.and_eq_true, decide_eq_true_iff, zb_test, Bool.or_eq_true, decide_eq_true_iff]; exact ⟨Or.inr rfl, h⟩⟩
      · have := hB i h1
        exact ⟨i, List.mem_range.mpr (by omega), by rw [nr1, Bool.and_eq_true, decide_eq_true_iff, zb_test, Bool.or_eq_true]; exact ⟨Or.inl h1, h2⟩⟩
  have outer : ∀ (n B : Nat) (g : Bool) (xs : Int64) (xg : Int32) (v5 : Option Value), n = 2 * (r - cntF B.testBit r) + (if g then 1 else 0) → xs = lN (B ||| 2 ^ r) → xg = bI g → (∀ i, B.testBit i = true → Jc M r (M.2.1 5 r 5) i) → (g = false → Jcl M r (M.2.1 5 r 5) (fun k => B.testBit k = true)) →
      AW l 170 2 0 0 11 none Post 7 [some (.ref 0), some (.int (iI r)), some (.long xs), none, some (.int xg), v5] [] (wMd now was kept isk ln sp ls ld tb rd und gon lef ak vn dy asd lma lim rea sts apr tz spo wro num nuA stl spe wan fou) 0 0 := by
    intro n
    induction n using Nat.strongRecOn with
    | ind n ih =>
      intro B g xs xg v5 hn e1 e2 hJ hcl
      subst e1; subst e2
      have inner : ∀ (q o B' : Nat) (g' : Bool) (xs : Int64) (xg x5 : Int32), g = true → q = r - o → o ≤ r → xs = lN (B' ||| 2 ^ r) → xg = bI g' → x5 = iI (o : Int) → (∀ i, B'.testBit i = true → Jc M r (M.2.1 5 r 5) i) → (g' = false → B' = B ∧ ∀ i, i < o → cj M i r (M.2.1 5 r 5) = true → (nearW M (M.2.1 5 i 5) (M.2.1 5 r 5) ∨ ∃ j, B.testBit j = true ∧ nearW M (M.2.1 5 i 5) (M.2.1 5 j 5)) → B.testBit i = true) → (g' = true → cntF B.testBit r < cntF B'.testBit r) →
          AW l 170 2 0 0 11 none Post 18 [some (.ref 0), some (.int (iI r)), some (.long xs), none, some (.int xg), some (.int x5)] [] (wMd now was kept isk ln sp ls ld tb rd und gon lef ak vn dy asd lma lim rea sts apr tz spo wro num nuA stl spe wan fou) 0 0 := by
        intro q
        induction q using Nat.strongRecOn with
        | ind q ihq =>
          intro o B' g' xs xg x5 hg hq ho e1 e2 e3 hJ' h0 h1
          subst e1; subst e2; subst e3
          have hlt : ∀ i, B'.testBit i = true → i < r := fun i hi => (hJ' i hi).lt.1
          have hb := hbig hlt
          refine AW.go (bs := b_Mod_joinedTo) [7, 18] 90 t_Mod_joinedTo ?_
          refine And.intro (fun h => ?_) (fun h => ?_)
          · rw [zc_ge (by omega) (by omega) (by omega) (by omega)] at h
            have hle := cntF_le B'.testBit r
            cases g' with
            | true =>
              have := h1 rfl
              exact ih _ (by rw [hn, hg]; simp; omega) B' true _ _ _ rfl rfl rfl hJ' (fun e => by cases e)
            | false =>
              obtain ⟨e, hcl'⟩ := h0 rfl
              subst e
              refine ih _ (by rw [hn, hg]; simp) B' false _ _ _ rfl rfl rfl hJ' (fun _ k k1 k2 k3 => hcl' k (by omega) k2 k3)
          rw [zc_ge (by omega) (by omega) (by omega) (by omega)] at h
          have ho5 : o < M.1 5 := by omega
          have hor : o ≠ r := by omega
          have etb : (B' ||| 2 ^ r).testBit o = B'.testBit o := by rw [zb_test, decide_eq_false (fun e => hor e.symm), Bool.or_false]
          show _ ∧ _
          rw [show (lN (1 : Fin 2).val) = lN 1 from rfl, zl_bit hb.2 (by omega), etb]
          have skip : (cj M o r (M.2.1 5 r 5) = true → (nearW M (M.2.1 5 o 5) (M.2.1 5 r 5) ∨ ∃ j, B'.testBit j = true ∧ nearW M (M.2.1 5 o 5) (M.2.1 5 j 5)) → B'.testBit o = true) → AW l 170 2 0 0 11 none Post 18 [some (.ref 0), some (.int (iI r)), some (.long (lN (B' ||| 2 ^ r))), none, some (.int (bI g')), some (.int (iI (o : Int) + z_nn 1 0))] [] (wMd now was kept isk ln sp ls ld tb rd und gon lef ak vn dy asd lma lim rea sts apr tz spo wro num nuA stl spe wan fou) 0 0 := by
            intro hs
            refine ihq _ (by omega) (o + 1) B' g' _ _ _ hg rfl (by omega) rfl rfl (zn_inc o) hJ' (fun e => ?_) h1
            obtain ⟨e1, e2⟩ := h0 e
            refine ⟨e1, fun i hi => ?_⟩
            rcases Nat.lt_or_ge i o with q | q
            · exact e2 i q
            · rw [show i = o by omega, ← e1]; exact hs
          refine And.intro (fun h2 => ?_) (fun h2 => ?_)
          · rw [zl_one] at h2
            exact skip (fun _ _ => h2)
          rw [zl_one, Bool.not_eq_true] at h2
          refine ⟨_, v_mmayJoin l, by decide, _, _, _, _, _, _, _, _, _, _, _, _, _, _, _, _, _, _, _, _, _, _, _, _, _, _, _, _, _, _, _, M, rfl, hN, hO, o, r, rfl, ho5, hr, ?_⟩
          refine And.intro (fun h3 => ?_) (fun h3 => ?_)
          · rw [zc_beq] at h3
            exact skip (fun e => by rw [h3] at e; cases e)
          rw [zc_beq, Bool.not_eq_false] at h3
          refine ⟨_, v_misNear l, by decide, _, _, _, _, _, _, _, _, _, _, _, _, _, _, _, _, _, _, _, _, _, _, _, _, _, _, _, _, _, _, _, M, rfl, hN, hO, o, r, B' ||| 2 ^ r, rfl, ho5, hr, hb.2, ?_⟩
          refine And.symm (And.intro (fun h4 => ?_) (fun h4 => ?_))
          · rw [zc_bne] at h4
            exact skip (fun _ e => absurd ((nrI B' o hlt).mpr e) h4)
          rw [zc_bne, nrI B' o hlt] at h4
          have hjo : Jc M r (M.2.1 5 r 5) o := Jc.closed o (by omega) h3 (h4.imp id (fun ⟨i, q1, q2⟩ => ⟨i, hJ' i q1, q2⟩))
          have hc := cntF_add (P := B'.testBit) (P' := (B' ||| 2 ^ o).testBit) h2 (fun i => zb_test B' o i) r
          rw [if_pos (by omega)] at hc
          have ho62 : 2 ^ o < 2 ^ 62 := Nat.pow_lt_pow_right (by decide) (by omega)
          refine ihq _ (by omega) (o + 1) (B' ||| 2 ^ o) true _ _ _ hg rfl (by omega) ?_ rfl (zn_inc o) (fun i hi => ?_) (fun e => by cases e) (fun _ => ?_)
          · rw [show (lN (1 : Fin 2).val) = lN 1 from rfl, zl_shl o (by omega), zl_or (by omega) (by omega)]
            congr 1
            rw [Nat.or_assoc, Nat.or_comm (2 ^ r), ← Nat.or_assoc]
          · rw [zb_test, Bool.or_eq_true, decide_eq_true_iff] at hi
            rcases hi with hi | hi
            · exact hJ' i hi
            · rw [← hi]; exact hjo
          · cases g' with
            | true => have := h1 rfl; omega
            | false => rw [← (h0 rfl).1]; omega
      have hlt : ∀ i, B.testBit i = true → i < r := fun i hi => (hJ i hi).lt.1
      have hb := hbig hlt
      refine AW.go (bs := b_Mod_joinedTo) [7, 18] 90 t_Mod_joinedTo ?_
      refine And.intro (fun h => ?_) (fun h => ?_)
      · rw [zc_beq] at h
        show Post _ _
        rw [show (lN (1 : Fin 2).val) = lN 1 from rfl, zl_shl r (by omega), zl_xor (by omega) (by omega)]
        have ex : (B ||| 2 ^ r) ^^^ 2 ^ r = B := by
          apply Nat.eq_of_testBit_eq
          intro i
          rw [Nat.testBit_xor, zb_test, Nat.testBit_two_pow]
          by_cases e : r = i
          · subst e
            rw [decide_eq_true rfl, Bool.or_true]
            cases hbr : B.testBit r with
            | false => rfl
            | true => exact absurd (hlt r hbr) (Nat.lt_irrefl r)
          · rw [decide_eq_false e, Bool.or_false]; cases B.testBit i <;> rfl
        rw [ex, jm_eq hJ (hcl h)]
        exact hP0 _ hK
      rw [zc_beq, Bool.not_eq_false] at h
      exact inner _ 0 B false _ _ _ h rfl (by omega) rfl rfl rfl hJ (fun _ => ⟨rfl, fun i hi => by omega⟩) (fun e => by cases e)
  refine AW.go (bs := b_Mod_joinedTo) [7] 90 t_Mod_joinedTo ?_
  refine outer _ 0 true _ _ _ rfl ?_ rfl (fun i hi => by simp at hi) (fun e => by cases e)
  rw [show (lN (1 : Fin 2).val) = lN 1 from rfl, zl_shl r (by omega), Nat.zero_or]
theorem amt_cut {M : Od} {m r : Nat} (h : ∀ i, m.testBit i = true → i < r) : ∀ {n : Nat}, r ≤ n → amt M m n = amt M m r
  | 0, hn => by rw [show r = 0 by omega]
  | n + 1, hn => by
    rcases Nat.lt_or_ge r (n + 1) with q | q
    · rw [amt, if_neg (fun e => by have := h n e; omega)]
      exact amt_cut h (by omega)
    · rw [show r = n + 1 by omega]
def sp_mwholeOf : Sp := spN 3 (fun M _ _ _ _ _ as K => ∃ (r : Nat), as = [.ref 0, .int (iI r)] ∧ r < M.1 5 ∧ K (some (.int (iI (wq M r)))))
set_option maxRecDepth 20000 in
theorem v_mwholeOf (l : Launch) : z_V l 174 sp_mwholeOf := by
  refine z_V.ofP (by decide +kernel) ?_
  rintro as σ K Post ⟨now, was, kept, isk, ln, sp, ls, ld, tb, rd, und, gon, lef, ak, vn, dy, asd, lma, lim, rea, sts, apr, tz, spo, wro, num, nuA, stl, spe, wan, fou, M, rfl, hN, hO, r, rfl, hr, hK⟩ hP1 hP0
  have hx := hO.mx 5 (by omega)
  have hj62 := jm62 hO hr (M.2.1 5 r 5)
  have c := hO.2.2.2.2.2.1 r hr
  have of : ∀ (o c : Nat), o < M.1 5 → c < 7 → ∀ K : Option Value → Option (List AE) → Prop, K (some (.int (iI (M.2.1 5 o c)))) none → sp_mof.2.2.2.2 [.ref 0, .int (iI o), .int (iI c)] (wMd now was kept isk ln sp ls ld tb rd und gon lef ak vn dy asd lma lim rea sts apr tz spo wro num nuA stl spe wan fou) K := fun o c h1 h2 K hk => ⟨_, _, _, _, _, _, _, _, _, _, _, _, _, _, _, _, _, _, _, _, _, _, _, _, _, _, _, _, _, _, _, M, rfl, hN, hO, o, c, rfl, h1, h2, hk⟩
  have ewq : wq M r = M.2.1 5 r 4 + amt M (jm M r (M.2.1 5 r 5)) r := by
    unfold wq whF
    rw [amt_cut (r := r) (fun i hi => (jm_test.mp hi).lt.1) (by omega)]
  have loop : ∀ (n k : Nat) (x4 x5 : Int32), n = r - k → k ≤ r → x4 = iI (M.2.1 5 r 4 + amt M (jm M r (M.2.1 5 r 5)) k) → x5 = iI (k : Int) →
      AW l 174 3 0 0 11 none Post 17 [some (.ref 0), some (.int (iI r)), some (.long (lN (jm M r (M.2.1 5 r 5)))), none, some (.int x4), some (.int x5)] [] (wMd now was kept isk ln sp ls ld tb rd und gon lef ak vn dy asd lma lim rea sts apr tz spo wro num nuA stl spe wan fou) 0 0 := by
    intro n
    induction n using Nat.strongRecOn with
    | ind n ih =>
      intro k x4 x5 hn hk e4 e5
      subst e4; subst e5
      refine AW.go (bs := b_Mod_wholeOf) [17] 90 t_Mod_wholeOf ?_
      refine And.intro (fun h => ?_) (fun h => ?_)
      · rw [zc_ge (by omega) (by omega) (by omega) (by omega)] at h
        have : k = r := by omega
        subst this
        rw [ewq] at hK
        exact hP0 _ hK
      rw [zc_ge (by omega) (by omega) (by omega) (by omega)] at h
      show _ ∧ _
      rw [show (lN (1 : Fin 2).val) = lN 1 from rfl, zl_bit hj62 (by omega)]
      refine And.intro (fun h2 => ?_) (fun h2 => ?_)
      · rw [zl_one'] at h2
        exact ih _ (by omega) (k + 1) _ _ rfl (by omega) (by rw [zn_i, iI_add, amt, h2]; first | rfl | (congr 1; done) | (congr 1; simp; done) | (congr 1; omega)) (zn_inc k)
      · rw [zl_one', Bool.not_eq_false] at h2
        refine ⟨_, v_mof l, by decide, of k 4 (by omega) (by omega) _ ?_⟩
        exact ih _ (by omega) (k + 1) _ _ rfl (by omega) (by rw [iI_add, amt, if_pos h2]; congr 1; omega) (zn_inc k)
  refine AW.go (bs := b_Mod_wholeOf) [17] 90 t_Mod_wholeOf ?_
  refine ⟨_, v_mjoinedTo l, by decide, _, _, _, _, _, _, _, _, _, _, _, _, _, _, _, _, _, _, _, _, _, _, _, _, _, _, _, _, _, _, _, M, rfl, hN, hO, r, rfl, hr, ?_⟩
  refine ⟨_, v_mof l, by decide, of r 4 hr (by omega) _ ?_⟩
  exact loop _ 0 _ _ rfl (by omega) (by rw [amt]; congr 1; omega) rfl
