/-! the model: who is away, who is a foe, who holds -/
def awayP (M : Od) (g lo p y : Int) : Bool := decide (p = g) || (List.range (M.1 1)).any (fun k => decide ((k : Int) ≠ lo) && (decide (M.2.1 1 k 0 = p) && cov M 1 k y))
theorem awB_test {M : Od} (hO : OKM M) (m : Mt) (y : Int) {p : Nat} (hp : p < 16) : (awB M m y).testBit p = awayP M (mA m) (mL m) p y := by
  rw [Bool.eq_iff_iff]
  unfold awB awayP awayM
  rw [Nat.testBit_or, Bool.or_eq_true, Bool.or_eq_true, bitsF_test, bitI_test _ _ hp, decide_eq_true_iff, decide_eq_true_iff, List.any_eq_true]
  constructor
  · rintro (⟨k, h1, h2, h3⟩ | h)
    · refine Or.inr ⟨k, List.mem_range.mpr h1, ?_⟩
      obtain ⟨q, q1, q2⟩ := hO.per h1
      unfold aw1 at h2
      rw [Bool.and_eq_true, decide_eq_true_iff] at h2
      rw [Bool.and_eq_true, Bool.and_eq_true, decide_eq_true_iff, decide_eq_true_iff]
      exact ⟨h2.1, by rw [q2] at h3 ⊢; simp at h3; omega, h2.2⟩
    · exact Or.inl h.symm
  · rintro (h | ⟨k, h1, h2⟩)
    · exact Or.inr h.symm
    · rw [Bool.and_eq_true, Bool.and_eq_true, decide_eq_true_iff, decide_eq_true_iff] at h2
      refine Or.inl ⟨k, List.mem_range.mp h1, ?_, by rw [h2.2.1]; simp⟩
      unfold aw1
      rw [Bool.and_eq_true, decide_eq_true_iff]
      exact ⟨h2.1, h2.2.2⟩
def foeP (M : Od) (v p : Int) : Bool := (List.range (M.1 3)).any (fun k => decide (M.2.1 3 k 0 = p) && decide (M.2.1 3 k 1 = v))
theorem foeM_test {M : Od} (hO : OKM M) (v : Int) (p : Nat) : (foeM M v (M.1 3)).testBit p = foeP M v p := by
  rw [Bool.eq_iff_iff]
  unfold foeM foeP
  rw [bitsF_test, List.any_eq_true]
  constructor
  · rintro ⟨k, h1, h2, h3⟩
    obtain ⟨q, q1, q2⟩ := hO.foep h1
    refine ⟨k, List.mem_range.mpr h1, ?_⟩
    unfold foe1 at h2
    rw [Bool.and_eq_true, decide_eq_true_iff]
    exact ⟨by rw [q2] at h3 ⊢; simp at h3; omega, h2⟩
  · rintro ⟨k, h1, h2⟩
    rw [Bool.and_eq_true, decide_eq_true_iff] at h2
    exact ⟨k, List.mem_range.mp h1, h2.2, by rw [h2.1]; simp⟩
theorem any_range_false {P : Nat → Bool} {n : Nat} (h : ∀ i, i < n → P i = false) : (List.range n).any P = false := by
  rw [List.any_eq_false]
  intro i hi
  rw [h i (List.mem_range.mp hi)]; decide
theorem any_range_true {P : Nat → Bool} {n i : Nat} (hi : i < n) (h : P i = true) : (List.range n).any P = true := List.any_eq_true.mpr ⟨i, List.mem_range.mpr hi, h⟩
def sp_misAway : Sp := spN 2 (fun M gon lef _ _ _ as K => ∃ (g lo p y : Int), as = [.ref 0, .int (iI p), .int (iI y)] ∧ gon = iI g ∧ lef = iI lo ∧ ir g ∧ ir lo ∧ ir p ∧ ir y ∧ K (some (.int (bI (awayP M g lo p y)))))
set_option maxRecDepth 20000 in
theorem v_misAway (l : Launch) : z_V l 164 sp_misAway := by
  refine z_V.ofP (by decide +kernel) ?_
  rintro as σ K Post ⟨now, was, kept, isk, ln, sp, ls, ld, tb, rd, und, gon, lef, ak, vn, dy, asd, lma, lim, rea, sts, apr, tz, spo, wro, num, nuA, stl, spe, wan, fou, M, rfl, hN, hO, g, lo, p, y, rfl, rfl, rfl, ⟨g1, g2⟩, ⟨l1, l2⟩, ⟨p1, p2⟩, ⟨y1, y2⟩, hK⟩ hP1 hP0
  unfold awayP at hK
  have hx := hO.mx 1 (by omega)
  have loop : ∀ (n k : Nat) (x : Int32), p ≠ g → n = M.1 1 - k → k ≤ M.1 1 → x = iI (k : Int) → (∀ i, i < k → (decide ((i : Int) ≠ lo) && (decide (M.2.1 1 i 0 = p) && cov M 1 i y)) = false) →
      AW l 164 2 0 0 11 none Post 12 [some (.ref 0), some (.int (iI p)), some (.int (iI y)), some (.int x)] [] (wMd now was kept isk ln sp ls ld tb rd und (iI g) (iI lo) ak vn dy asd lma lim rea sts apr tz spo wro num nuA stl spe wan fou) 0 0 := by
    intro n
    induction n using Nat.strongRecOn with
    | ind n ih =>
      intro k x hpg hn hk e1 hh
      subst e1
      have next : (decide ((k : Int) ≠ lo) && (decide (M.2.1 1 k 0 = p) && cov M 1 k y)) = false → ∀ i, i < k + 1 → (decide ((i : Int) ≠ lo) && (decide (M.2.1 1 i 0 = p) && cov M 1 i y)) = false := by
        intro h0 i hi
        rcases Nat.lt_or_ge i k with q | q
        · exact hh i q
        · rw [show i = k by omega]; exact h0
      refine AW.go (bs := b_Mod_isAway) [12] 70 t_Mod_isAway ?_
      refine ⟨_, v_mmany l, by decide, _, _, _, _, _, _, _, _, _, _, _, _, _, _, _, _, _, _, _, _, _, _, _, _, _, _, _, _, _, _, _, M, rfl, hN, hO, 1, rfl, by omega, ?_⟩
      refine And.intro (fun h => ?_) (fun h => ?_)
      · rw [zc_ge (by omega) (by omega) (by omega) (by omega)] at h
        rw [decide_eq_false hpg, Bool.false_or, any_range_false (fun i hi => hh i (by omega))] at hK
        exact And.intro (Or.inl rfl) (hP0 _ hK)
      rw [zc_ge (by omega) (by omega) (by omega) (by omega)] at h
      have hk1 : k < M.1 1 := by omega
      have c := hO.2.1 k hk1
      refine And.intro (fun h2 => ?_) (fun h2 => ?_)
      · rw [zc_eq (by omega) (by omega) l1 l2] at h2
        exact ih _ (by omega) (k + 1) _ hpg rfl (by omega) (zn_inc k) (next (by rw [decide_eq_false (fun q => q h2), Bool.false_and]))
      rw [zc_eq (by omega) (by omega) l1 l2] at h2
      refine ⟨_, v_mentryOf l, by decide, _, _, _, _, _, _, _, _, _, _, _, _, _, _, _, _, _, _, _, _, _, _, _, _, _, _, _, _, _, _, _, M, rfl, hN, hO, 1, k, 0, rfl, by omega, hk1, by decide, ?_⟩
      refine And.intro (fun h3 => ?_) (fun h3 => ?_)
      · rw [zc_ne (by omega) (by omega) p1 p2] at h3
        exact ih _ (by omega) (k + 1) _ hpg rfl (by omega) (zn_inc k) (next (by rw [decide_eq_false h3, Bool.false_and, Bool.and_false]))
      rw [zc_ne (by omega) (by omega) p1 p2, Classical.not_not] at h3
      refine ⟨_, v_mentryOf l, by decide, _, _, _, _, _, _, _, _, _, _, _, _, _, _, _, _, _, _, _, _, _, _, _, _, _, _, _, _, _, _, _, M, rfl, hN, hO, 1, k, 1, rfl, by omega, hk1, by decide, ?_⟩
      refine ⟨_, v_mentryOf l, by decide, _, _, _, _, _, _, _, _, _, _, _, _, _, _, _, _, _, _, _, _, _, _, _, _, _, _, _, _, _, _, _, M, rfl, hN, hO, 1, k, 2, rfl, by omega, hk1, by decide, ?_⟩
      refine ⟨_, v_in l, by decide, rfl, y, M.2.1 1 k 1, M.2.1 1 k 2, _, _, _, rfl, l_i y1 y2, l_i (by omega) (by omega), l_i (by omega) (by omega), ⟨by omega, by omega⟩, ⟨by omega, by omega⟩, ⟨by omega, by omega⟩, ?_⟩
      have ec : decide (M.2.1 1 k 1 ≤ y ∧ y ≤ M.2.1 1 k 2) = cov M 1 k y := by
        unfold cov; rw [Bool.decide_and]; rfl
      rw [ec]
      refine And.intro (fun h4 => ?_) (fun h4 => ?_)
      · rw [zc_beq] at h4
        exact ih _ (by omega) (k + 1) _ hpg rfl (by omega) (zn_inc k) (next (by rw [h4, Bool.and_false, Bool.and_false]))
      · rw [zc_beq, Bool.not_eq_false] at h4
        rw [any_range_true hk1 (by rw [decide_eq_true h2, decide_eq_true h3, h4]; rfl), Bool.or_true] at hK
        exact And.intro (Or.inr rfl) (hP0 _ hK)
  refine AW.go (bs := b_Mod_isAway) [12] 70 t_Mod_isAway ?_
  refine And.symm (And.intro (fun h => ?_) (fun h => ?_))
  · rw [zc_ne p1 p2 g1 g2, Classical.not_not] at h
    rw [decide_eq_true h, Bool.true_or] at hK
    exact And.intro (Or.inr rfl) (hP0 _ hK)
  · rw [zc_ne p1 p2 g1 g2] at h
    exact loop _ 0 _ h rfl (by omega) rfl (fun i hi => by omega)
def sp_misFoe : Sp := spN 2 (fun M _ _ _ vn _ as K => ∃ (v p : Int), as = [.ref 0, .int (iI p)] ∧ vn = iI v ∧ ir v ∧ ir p ∧ K (some (.int (bI (foeP M v p)))))
set_option maxRecDepth 20000 in
theorem v_misFoe (l : Launch) : z_V l 165 sp_misFoe := by
  refine z_V.ofP (by decide +kernel) ?_
  rintro as σ K Post ⟨now, was, kept, isk, ln, sp, ls, ld, tb, rd, und, gon, lef, ak, vn, dy, asd, lma, lim, rea, sts, apr, tz, spo, wro, num, nuA, stl, spe, wan, fou, M, rfl, hN, hO, v, p, rfl, rfl, ⟨v1, v2⟩, ⟨p1, p2⟩, hK⟩ hP1 hP0
  unfold foeP at hK
  have hx := hO.mx 3 (by omega)
  have loop : ∀ (n k : Nat) (x : Int32), n = M.1 3 - k → k ≤ M.1 3 → x = iI (k : Int) → (∀ i, i < k → (decide (M.2.1 3 i 0 = p) && decide (M.2.1 3 i 1 = v)) = false) →
      AW l 165 2 0 0 11 none Post 2 [some (.ref 0), some (.int (iI p)), some (.int x)] [] (wMd now was kept isk ln sp ls ld tb rd und gon lef ak (iI v) dy asd lma lim rea sts apr tz spo wro num nuA stl spe wan fou) 0 0 := by
    intro n
    induction n using Nat.strongRecOn with
    | ind n ih =>
      intro k x hn hk e1 hh
      subst e1
      have next : (decide (M.2.1 3 k 0 = p) && decide (M.2.1 3 k 1 = v)) = false → ∀ i, i < k + 1 → (decide (M.2.1 3 i 0 = p) && decide (M.2.1 3 i 1 = v)) = false := by
        intro h0 i hi
        rcases Nat.lt_or_ge i k with q | q
        · exact hh i q
        · rw [show i = k by omega]; exact h0
      refine AW.go (bs := b_Mod_isFoe) [2] 70 t_Mod_isFoe ?_
      refine ⟨_, v_mmany l, by decide, _, _, _, _, _, _, _, _, _, _, _, _, _, _, _, _, _, _, _, _, _, _, _, _, _, _, _, _, _, _, _, M, rfl, hN, hO, 3, rfl, by omega, ?_⟩
      refine And.intro (fun h => ?_) (fun h => ?_)
      · rw [zc_ge (by omega) (by omega) (by omega) (by omega)] at h
        rw [any_range_false (fun i hi => hh i (by omega))] at hK
        exact And.intro (Or.inl rfl) (hP0 _ hK)
      rw [zc_ge (by omega) (by omega) (by omega) (by omega)] at h
      have hk1 : k < M.1 3 := by omega
      have c := hO.2.2.2.1 k hk1
      refine ⟨_, v_mentryOf l, by decide, _, _, _, _, _, _, _, _, _, _, _, _, _, _, _, _, _, _, _, _, _, _, _, _, _, _, _, _, _, _, _, M, rfl, hN, hO, 3, k, 0, rfl, by omega, hk1, by decide, ?_⟩
      refine And.intro (fun h3 => ?_) (fun h3 => ?_)
      · rw [zc_ne (by omega) (by omega) p1 p2] at h3
        exact ih _ (by omega) (k + 1) _ rfl (by omega) (zn_inc k) (next (by rw [decide_eq_false h3, Bool.false_and]))
      rw [zc_ne (by omega) (by omega) p1 p2, Classical.not_not] at h3
      refine ⟨_, v_mentryOf l, by decide, _, _, _, _, _, _, _, _, _, _, _, _, _, _, _, _, _, _, _, _, _, _, _, _, _, _, _, _, _, _, _, M, rfl, hN, hO, 3, k, 1, rfl, by omega, hk1, by decide, ?_⟩
      refine And.intro (fun h4 => ?_) (fun h4 => ?_)
      · rw [zc_ne (by omega) (by omega) v1 v2] at h4
        exact ih _ (by omega) (k + 1) _ rfl (by omega) (zn_inc k) (next (by rw [decide_eq_false h4, Bool.and_false]))
      · rw [zc_ne (by omega) (by omega) v1 v2, Classical.not_not] at h4
        rw [any_range_true hk1 (by rw [decide_eq_true h3, decide_eq_true h4]; rfl)] at hK
        exact And.intro (Or.inr rfl) (hP0 _ hK)
  refine AW.go (bs := b_Mod_isFoe) [2] 70 t_Mod_isFoe ?_
  exact loop _ 0 _ rfl (by omega) rfl (fun i hi => by omega)
def sp_mholderOf : Sp := spN 2 (fun M _ _ _ _ _ as K => ∃ (p y : Int), as = [.ref 0, .int (iI p), .int (iI y)] ∧ ir p ∧ ir y ∧ K (some (.int (iI (holder M p y)))))
set_option maxRecDepth 20000 in
theorem v_mholderOf (l : Launch) : z_V l 166 sp_mholderOf := by
  refine z_V.ofP (by decide +kernel) ?_
  rintro as σ K Post ⟨now, was, kept, isk, ln, sp, ls, ld, tb, rd, und, gon, lef, ak, vn, dy, asd, lma, lim, rea, sts, apr, tz, spo, wro, num, nuA, stl, spe, wan, fou, M, rfl, hN, hO, p, y, rfl, ⟨p1, p2⟩, ⟨y1, y2⟩, hK⟩ hP1 hP0
  have hx := hO.mx 0 (by omega)
  have loop : ∀ (n k : Nat) (x : Int32), n = M.1 0 - k → k ≤ M.1 0 → x = iI (k : Int) → (∀ i, i < k → hold1 M p y i = false) →
      AW l 166 2 0 0 11 none Post 2 [some (.ref 0), some (.int (iI p)), some (.int (iI y)), some (.int x)] [] (wMd now was kept isk ln sp ls ld tb rd und gon lef ak vn dy asd lma lim rea sts apr tz spo wro num nuA stl spe wan fou) 0 0 := by
    intro n
    induction n using Nat.strongRecOn with
    | ind n ih =>
      intro k x hn hk e1 hh
      subst e1
      have next : hold1 M p y k = false → ∀ i, i < k + 1 → hold1 M p y i = false := by
        intro h0 i hi
        rcases Nat.lt_or_ge i k with q | q
        · exact hh i q
        · rw [show i = k by omega]; exact h0
      refine AW.go (bs := b_Mod_holderOf) [2] 70 t_Mod_holderOf ?_
      refine ⟨_, v_mmany l, by decide, _, _, _, _, _, _, _, _, _, _, _, _, _, _, _, _, _, _, _, _, _, _, _, _, _, _, _, _, _, _, _, M, rfl, hN, hO, 0, rfl, by omega, ?_⟩
      refine And.intro (fun h => ?_) (fun h => ?_)
      · rw [zc_ge (by omega) (by omega) (by omega) (by omega)] at h
        rw [holder, find_none (fun i hi => hh i (by omega))] at hK
        exact hP0 _ hK
      rw [zc_ge (by omega) (by omega) (by omega) (by omega)] at h
      have hk1 : k < M.1 0 := by omega
      have c := hO.1 k hk1
      have hx4 := hO.mx 4 (by omega)
      refine ⟨_, v_mentryOf l, by decide, _, _, _, _, _, _, _, _, _, _, _, _, _, _, _, _, _, _, _, _, _, _, _, _, _, _, _, _, _, _, _, M, rfl, hN, hO, 0, k, 0, rfl, by omega, hk1, by decide, ?_⟩
      refine And.intro (fun h3 => ?_) (fun h3 => ?_)
      · rw [zc_ne (by omega) (by omega) p1 p2] at h3
        exact ih _ (by omega) (k + 1) _ rfl (by omega) (zn_inc k) (next (by rw [hold1, decide_eq_false h3, Bool.false_and]))
      rw [zc_ne (by omega) (by omega) p1 p2, Classical.not_not] at h3
      refine ⟨_, v_mentryOf l, by decide, _, _, _, _, _, _, _, _, _, _, _, _, _, _, _, _, _, _, _, _, _, _, _, _, _, _, _, _, _, _, _, M, rfl, hN, hO, 0, k, 2, rfl, by omega, hk1, by decide, ?_⟩
      refine ⟨_, v_mentryOf l, by decide, _, _, _, _, _, _, _, _, _, _, _, _, _, _, _, _, _, _, _, _, _, _, _, _, _, _, _, _, _, _, _, M, rfl, hN, hO, 0, k, 3, rfl, by omega, hk1, by decide, ?_⟩
      refine ⟨_, v_in l, by decide, rfl, y, M.2.1 0 k 2, M.2.1 0 k 3, _, _, _, rfl, l_i y1 y2, l_i (by omega) (by omega), l_i (by omega) (by omega), ⟨by omega, by omega⟩, ⟨by omega, by omega⟩, ⟨by omega, by omega⟩, ?_⟩
      have ec : decide (M.2.1 0 k 2 ≤ y ∧ y ≤ M.2.1 0 k 3) = cov M 0 k y := by
        unfold cov; rw [Bool.decide_and]; rfl
      rw [ec]
      refine And.intro (fun h4 => ?_) (fun h4 => ?_)
      · rw [zc_beq] at h4
        exact ih _ (by omega) (k + 1) _ rfl (by omega) (zn_inc k) (next (by rw [hold1, h4, Bool.and_false]))
      · rw [zc_beq, Bool.not_eq_false] at h4
        refine ⟨_, v_mentryOf l, by decide, _, _, _, _, _, _, _, _, _, _, _, _, _, _, _, _, _, _, _, _, _, _, _, _, _, _, _, _, _, _, _, M, rfl, hN, hO, 0, k, 1, rfl, by omega, hk1, by decide, ?_⟩
        rw [holder, find_some hk1 (by rw [hold1, decide_eq_true h3, h4]; rfl) hh] at hK
        exact hP0 _ hK
  refine AW.go (bs := b_Mod_holderOf) [2] 70 t_Mod_holderOf ?_
  exact loop _ 0 _ rfl (by omega) rfl (fun i hi => by omega)
