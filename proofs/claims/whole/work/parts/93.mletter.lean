/-! the model's letter -/
def sp_mspell : Sp := (0, 0, 0, pMd, fun as σ K => ∃ (now was kept isk ln sp ls ld tb rd : Nat → Int32) (und gon lef ak vn dy asd lma lim rea sts apr tz spo wro num nuA stl spe wan fou : Int32) (w : Int) (cs : List Nat) (c : Nat), as = [.ref 0, .int (iI (c : Int))] ∧ σ = (wMd now was kept isk ln sp ls ld tb rd und gon lef ak vn dy asd lma lim rea sts apr tz spo wro num nuA stl (iI ((cs).length : Int)) (iI w) (iI (fnd (cs) w))) ∧ ir w ∧ cs.length < 1000000 ∧ K none (some (wMd now was kept isk ln sp ls ld tb rd und gon lef ak vn dy asd lma lim rea sts apr tz spo wro num nuA stl (iI ((cs ++ [c]).length : Int)) (iI w) (iI (fnd (cs ++ [c]) w)))))
set_option maxRecDepth 20000 in
theorem v_mspell (l : Launch) : z_V l 263 sp_mspell := by
  refine z_V.ofP (by decide +kernel) ?_
  rintro as σ K Post ⟨now, was, kept, isk, ln, sp, ls, ld, tb, rd, und, gon, lef, ak, vn, dy, asd, lma, lim, rea, sts, apr, tz, spo, wro, num, nuA, stl, spe, wan, fou, w, cs, c, rfl, rfl, ⟨w1, w2⟩, hl, hK⟩ hP1 hP0
  rw [← len_snoc] at hK
  refine AW.go (bs := b_Mod_spell) [] 60 t_Mod_spell ?_
  refine And.intro (fun h => ?_) (fun h => ?_)
  · rw [zc_ne (by omega) (by omega) w1 w2] at h
    rw [fnd_ne h] at hK
    exact hP1 _ _ hK
  · rw [zc_ne (by omega) (by omega) w1 w2, Classical.not_not] at h
    rw [fnd_eq h] at hK
    exact hP1 _ _ hK
set_option maxRecDepth 20000 in
theorem mword_step (l : Launch) {Post : Option Value → List AE → Prop} {now was kept isk ln sp ls ld tb rd : Nat → Int32} {und gon lef ak vn dy asd lma lim rea sts apr tz spo wro num nuA stl spe wan fou : Int32} {i k : Nat} {w : Int} {cs : List Nat} (hi : i < 19) (hk : k ≤ sln i) (hw : ir w) (hl : cs.length < 1000000) (h1 : k = sln i → Post none (wMd now was kept isk ln sp ls ld tb rd und gon lef ak vn dy asd lma lim rea sts apr tz spo wro num nuA stl (iI ((cs).length : Int)) (iI w) (iI (fnd (cs) w)))) (h2 : k < sln i → AW l 264 4 0 0 11 none Post 2 [some (.ref 0), some (.ref (i + 2000)), some (.int (iI (k : Int) + z_nn 1 0))] [] (wMd now was kept isk ln sp ls ld tb rd und gon lef ak vn dy asd lma lim rea sts apr tz spo wro num nuA stl (iI ((cs ++ [chr i k]).length : Int)) (iI w) (iI (fnd (cs ++ [chr i k]) w))) 0 0) :
    AW l 264 4 0 0 11 none Post 2 [some (.ref 0), some (.ref (i + 2000)), some (.int (iI (k : Int)))] [] (wMd now was kept isk ln sp ls ld tb rd und gon lef ak vn dy asd lma lim rea sts apr tz spo wro num nuA stl (iI ((cs).length : Int)) (iI w) (iI (fnd (cs) w))) 0 0 := by
  have hs := sln_le hi
  rcases d19 hi with rfl | rfl | rfl | rfl | rfl | rfl | rfl | rfl | rfl | rfl | rfl | rfl | rfl | rfl | rfl | rfl | rfl | rfl | rfl <;>
  · refine AW.go (bs := b_Mod_spellWord) [2] 60 t_Mod_spellWord ?_
    refine ⟨_, v_slen l, by decide, _, rfl, by decide, rfl, ?_⟩
    refine And.intro (fun h => ?_) (fun h => ?_)
    · rw [zc_ge (by omega) (by omega) (by omega) (by omega)] at h
      exact h1 (by omega)
    · rw [zc_ge (by omega) (by omega) (by omega) (by omega)] at h
      refine ⟨_, v_char l, by decide, _, k, rfl, by decide, by omega, rfl, ?_⟩
      refine ⟨_, v_mspell l, by decide, _, _, _, _, _, _, _, _, _, _, _, _, _, _, _, _, _, _, _, _, _, _, _, _, _, _, _, _, 0, 0, 0, w, cs, chr _ k, rfl, rfl, hw, hl, ?_⟩
      exact h2 (by omega)
def sp_mspellWord : Sp := (4, 0, 0, pMd, fun as σ K => ∃ (now was kept isk ln sp ls ld tb rd : Nat → Int32) (und gon lef ak vn dy asd lma lim rea sts apr tz spo wro num nuA stl spe wan fou : Int32) (w : Int) (cs : List Nat) (i : Nat), as = [.ref 0, .ref (i + 2000)] ∧ σ = (wMd now was kept isk ln sp ls ld tb rd und gon lef ak vn dy asd lma lim rea sts apr tz spo wro num nuA stl (iI ((cs).length : Int)) (iI w) (iI (fnd (cs) w))) ∧ i < 19 ∧ ir w ∧ cs.length < 900000 ∧ K none (some (wMd now was kept isk ln sp ls ld tb rd und gon lef ak vn dy asd lma lim rea sts apr tz spo wro num nuA stl (iI ((cs ++ strL i).length : Int)) (iI w) (iI (fnd (cs ++ strL i) w)))))
set_option maxRecDepth 20000 in
theorem v_mspellWord (l : Launch) : z_V l 264 sp_mspellWord := by
  refine z_V.ofP (by decide +kernel) ?_
  rintro as σ K Post ⟨now, was, kept, isk, ln, sp, ls, ld, tb, rd, und, gon, lef, ak, vn, dy, asd, lma, lim, rea, sts, apr, tz, spo, wro, num, nuA, stl, spe, wan, fou, w, cs, i, rfl, rfl, hi, hw, hl, hK⟩ hP1 hP0
  have hs := sln_le hi
  have loop : ∀ (n k : Nat) (x : Int32) (cs' : List Nat), n = sln i - k → k ≤ sln i → x = iI (k : Int) → cs' = cs ++ (strL i).take k → AW l 264 4 0 0 11 none Post 2 [some (.ref 0), some (.ref (i + 2000)), some (.int x)] [] (wMd now was kept isk ln sp ls ld tb rd und gon lef ak vn dy asd lma lim rea sts apr tz spo wro num nuA stl (iI ((cs').length : Int)) (iI w) (iI (fnd (cs') w))) 0 0 := by
    intro n
    induction n with
    | zero =>
      intro k x cs' hn hk hx hc
      subst hx; subst hc
      refine mword_step l (spe := 0) (wan := 0) (fou := 0) hi hk hw (by simp only [List.length_append, List.length_take]; omega) (fun e => ?_) (fun e => by omega)
      rw [List.take_of_length_le (by show sln i ≤ k; omega)]
      exact hP1 _ _ hK
    | succ n ih =>
      intro k x cs' hn hk hx hc
      subst hx; subst hc
      refine mword_step l (spe := 0) (wan := 0) (fou := 0) hi hk hw (by simp only [List.length_append, List.length_take]; omega) (fun e => by omega) (fun e => ?_)
      rw [List.append_assoc, strL_get e]
      exact ih (k + 1) _ _ (by omega) (by omega) (zn_inc _) rfl
  have start : AW l 264 4 0 0 11 none Post 0 [some (.ref 0), some (.ref (i + 2000)), none] [] (wMd now was kept isk ln sp ls ld tb rd und gon lef ak vn dy asd lma lim rea sts apr tz spo wro num nuA stl (iI ((cs).length : Int)) (iI w) (iI (fnd (cs) w))) 0 0 := by
    refine AW.go (bs := b_Mod_spellWord) [2] 60 t_Mod_spellWord ?_
    exact loop _ 0 _ cs rfl (by omega) rfl (by simp)
  exact start
def sp_mspellPart : Sp := (5, 0, 0, pMd, fun as σ K => ∃ (now was kept isk ln sp ls ld tb rd : Nat → Int32) (und gon lef ak vn dy asd lma lim rea sts apr tz spo wro num nuA stl spe wan fou : Int32) (w : Int) (cs : List Nat) (i : Nat), as = [.ref 0, .ref (i + 2000)] ∧ σ = (wMd now was kept isk ln sp ls ld tb rd und gon lef ak vn dy asd lma lim rea sts apr tz spo wro num nuA stl (iI ((cs).length : Int)) (iI w) (iI (fnd (cs) w))) ∧ i < 19 ∧ ir w ∧ cs.length < 800000 ∧ K none (some (wMd now was kept isk ln sp ls ld tb rd und gon lef ak vn dy asd lma lim rea sts apr tz spo wro num nuA stl (iI ((sepL cs i).length : Int)) (iI w) (iI (fnd (sepL cs i) w)))))
set_option maxRecDepth 20000 in
theorem v_mspellPart (l : Launch) : z_V l 265 sp_mspellPart := by
  refine z_V.ofP (by decide +kernel) ?_
  rintro as σ K Post ⟨now, was, kept, isk, ln, sp, ls, ld, tb, rd, und, gon, lef, ak, vn, dy, asd, lma, lim, rea, sts, apr, tz, spo, wro, num, nuA, stl, spe, wan, fou, w, cs, i, rfl, rfl, hi, hw, hl, hK⟩ hP1 hP0
  have tail : ∀ cs' : List Nat, cs'.length < 800001 → (cs' ++ strL i = sepL cs i) → AW l 265 5 0 0 11 none Post 13 [some (.ref 0), some (.ref (i + 2000))] [] (wMd now was kept isk ln sp ls ld tb rd und gon lef ak vn dy asd lma lim rea sts apr tz spo wro num nuA stl (iI ((cs').length : Int)) (iI w) (iI (fnd (cs') w))) 0 0 := by
    intro cs' hl' he
    rw [← he] at hK
    rcases d19 hi with rfl | rfl | rfl | rfl | rfl | rfl | rfl | rfl | rfl | rfl | rfl | rfl | rfl | rfl | rfl | rfl | rfl | rfl | rfl <;>
    · refine AW.go (bs := b_Mod_spellPart) [] 60 t_Mod_spellPart ?_
      refine ⟨_, v_mspellWord l, by decide, _, _, _, _, _, _, _, _, _, _, _, _, _, _, _, _, _, _, _, _, _, _, _, _, _, _, _, _, 0, 0, 0, w, cs', _, rfl, rfl, by decide, hw, by omega, ?_⟩
      exact hP1 _ _ hK
  have start : AW l 265 5 0 0 11 none Post 0 [some (.ref 0), some (.ref (i + 2000))] [] (wMd now was kept isk ln sp ls ld tb rd und gon lef ak vn dy asd lma lim rea sts apr tz spo wro num nuA stl (iI ((cs).length : Int)) (iI w) (iI (fnd (cs) w))) 0 0 := by
    refine AW.go (bs := b_Mod_spellPart) [13] 60 t_Mod_spellPart ?_
    refine And.intro (fun h => ?_) (fun h => ?_)
    · rw [zc_le0 (by omega) (by omega)] at h
      refine tail cs (by omega) ?_
      have : cs = [] := List.length_eq_zero_iff.mp (by omega)
      unfold sepL
      rw [if_pos this, List.nil_append]
    · rw [zc_le0 (by omega) (by omega)] at h
      refine ⟨_, v_mspell l, by decide, _, _, _, _, _, _, _, _, _, _, _, _, _, _, _, _, _, _, _, _, _, _, _, _, _, _, _, _, 0, 0, 0, w, cs, 59, rfl, rfl, hw, by omega, ?_⟩
      refine tail (cs ++ [59]) (by rw [List.length_append]; show cs.length + 1 < _; omega) ?_
      unfold sepL
      rw [if_neg (by rintro rfl; simp at h), List.append_assoc]
  exact start
set_option maxRecDepth 20000 in
theorem mnum_dig (l : Launch) {Post : Option Value → List AE → Prop} {now was kept isk ln sp ls ld tb rd : Nat → Int32} {und gon lef ak vn dy asd lma lim rea sts apr tz spo wro num nuA stl spe wan fou : Int32} {v u : Nat} {w : Int} {cs : List Nat} (hv : v < 10000) (hu : 1 ≤ u) (hu2 : u ≤ 1000) (hc : u ≤ v ∨ u = 1) (hw : ir w) (hl : cs.length < 1000000) (h1 : AW l 266 5 0 0 11 none Post 24 [some (.ref 0), some (.int (iI (v : Int))), some (.int (iI ((u / 10 : Nat) : Int)))] [] (wMd now was kept isk ln sp ls ld tb rd und gon lef ak vn dy asd lma lim rea sts apr tz spo wro num nuA stl (iI ((cs ++ dg v u).length : Int)) (iI w) (iI (fnd (cs ++ dg v u) w))) 0 0) :
    AW l 266 5 0 0 11 none Post 24 [some (.ref 0), some (.int (iI (v : Int))), some (.int (iI (u : Int)))] [] (wMd now was kept isk ln sp ls ld tb rd und gon lef ak vn dy asd lma lim rea sts apr tz spo wro num nuA stl (iI ((cs).length : Int)) (iI w) (iI (fnd (cs) w))) 0 0 := by
  have e10 : iI (u : Int) / z_nn 10 0 = iI ((u / 10 : Nat) : Int) := by
    rw [zn_i, iI_div (by omega) (by omega) (by omega) (by omega)]; rfl
  have ed : z_nn 48 0 + (iI (v : Int) / iI (u : Int) - iI (v : Int) / iI (u : Int) / z_nn 10 0 * z_nn 10 0) = iI ((48 + v / u % 10 : Nat) : Int) := dg_i hv hu hu2
  have edg : dg v u = [48 + v / u % 10] := by unfold dg; rw [if_pos hc]
  rw [edg] at h1
  refine AW.go (bs := b_Mod_spellNumber) [24] 60 t_Mod_spellNumber ?_
  refine And.intro (fun h => ?_) (fun h => ?_)
  · rw [zc_le0 (by omega) (by omega)] at h; omega
  refine And.intro (fun q => by rw [iI_0, iI_inj (by omega) (by omega) (by omega) (by omega)] at q; omega) ?_
  refine And.intro (by decide) ?_
  show ∃ sp : Sp, _
  rw [ed]
  refine ⟨_, v_mspell l, by decide, _, _, _, _, _, _, _, _, _, _, _, _, _, _, _, _, _, _, _, _, _, _, _, _, _, _, _, _, 0, 0, 0, w, cs, 48 + v / u % 10, rfl, rfl, hw, hl, ?_⟩
  refine And.intro (by decide) ?_
  show AW _ _ _ _ _ _ _ _ _ _ _ _ _ _
  rw [e10]
  exact h1
set_option maxRecDepth 20000 in
theorem mnum_ten (l : Launch) {Post : Option Value → List AE → Prop} {σ : List AE} {v u : Nat} (hv : v < 10000) (hu : 1 ≤ u) (hu2 : u ≤ 1000) (h1 : v / u < 10 → AW l 266 5 0 0 11 none Post 24 [some (.ref 0), some (.int (iI (v : Int))), some (.int (iI (u : Int)))] [] σ 0 0) (h2 : 10 ≤ v / u → AW l 266 5 0 0 11 none Post 8 [some (.ref 0), some (.int (iI (v : Int))), some (.int (iI ((u * 10 : Nat) : Int)))] [] σ 0 0) :
    AW l 266 5 0 0 11 none Post 8 [some (.ref 0), some (.int (iI (v : Int))), some (.int (iI (u : Int)))] [] σ 0 0 := by
  have e10 : iI (u : Int) * z_nn 10 0 = iI ((u * 10 : Nat) : Int) := by
    rw [zn_i, iI_mul]; rfl
  have ed : iI (v : Int) / iI (u : Int) = iI ((v / u : Nat) : Int) := by
    rw [iI_div (by omega) (by omega) (by omega) (by omega)]; simp
  have hle : v / u ≤ v := Nat.div_le_self v u
  have hle0 : (0 : Int) ≤ ((v / u : Nat) : Int) := Int.natCast_nonneg _
  refine AW.go (bs := b_Mod_spellNumber) [8, 24] 60 t_Mod_spellNumber ?_
  refine And.intro (fun q => by rw [iI_0, iI_inj (by omega) (by omega) (by omega) (by omega)] at q; omega) ?_
  refine And.intro (fun h => ?_) (fun h => ?_)
  · rw [ed, zn_i, zc_lt (by omega) (by omega) (by omega) (by omega)] at h
    exact h1 (by omega)
  · rw [ed, zn_i, zc_lt (by omega) (by omega) (by omega) (by omega)] at h
    show AW _ _ _ _ _ _ _ _ _ _ _ _ _ _
    rw [e10]
    exact h2 (by omega)
def sp_mspellNumber : Sp := (5, 0, 0, pMd, fun as σ K => ∃ (now was kept isk ln sp ls ld tb rd : Nat → Int32) (und gon lef ak vn dy asd lma lim rea sts apr tz spo wro num nuA stl spe wan fou : Int32) (w : Int) (cs : List Nat) (v : Int), as = [.ref 0, .int (iI v)] ∧ σ = (wMd now was kept isk ln sp ls ld tb rd und gon lef ak vn dy asd lma lim rea sts apr tz spo wro num nuA stl (iI ((cs).length : Int)) (iI w) (iI (fnd (cs) w))) ∧ 0 ≤ v ∧ v ≤ 9999 ∧ ir w ∧ cs.length < 800000 ∧ K none (some (wMd now was kept isk ln sp ls ld tb rd und gon lef ak vn dy asd lma lim rea sts apr tz spo wro num nuA stl (iI ((cs ++ numL v).length : Int)) (iI w) (iI (fnd (cs ++ numL v) w)))))
set_option maxRecDepth 20000 in
theorem v_mspellNumber (l : Launch) : z_V l 266 sp_mspellNumber := by
  refine z_V.ofP (by decide +kernel) ?_
  rintro as σ K Post ⟨now, was, kept, isk, ln, sp, ls, ld, tb, rd, und, gon, lef, ak, vn, dy, asd, lma, lim, rea, sts, apr, tz, spo, wro, num, nuA, stl, spe, wan, fou, w, cs, v, rfl, rfl, v1, v2, hw, hl, hK⟩ hP1 hP0
  have hl2 : (cs ++ [32]).length < 800001 := by rw [List.length_append]; show cs.length + 1 < _; omega
  obtain ⟨n, rfl⟩ := Int.eq_ofNat_of_zero_le v1
  have a1 := dg_len n 1000
  have a2 := dg_len n 100
  have a3 := dg_len n 10
  have hz : ∀ u, n < u → u ≠ 1 → dg n u = [] := fun u h1 h2 => by unfold dg; rw [if_neg (by omega)]
  have fin : ∀ cs' : List Nat, cs' = cs ++ numL (n : Int) → AW l 266 5 0 0 11 none Post 24 [some (.ref 0), some (.int (iI (n : Int))), some (.int (iI ((1 / 10 : Nat) : Int)))] [] (wMd now was kept isk ln sp ls ld tb rd und gon lef ak vn dy asd lma lim rea sts apr tz spo wro num nuA stl (iI ((cs').length : Int)) (iI w) (iI (fnd (cs') w))) 0 0 := by
    intro cs' hc
    subst hc
    refine AW.go (bs := b_Mod_spellNumber) [] 60 t_Mod_spellNumber ?_
    refine And.intro (fun _ => ?_) (fun q => absurd (show z_cond .le (iI ((1 / 10 : Nat) : Int)) 0 by first | decide | (rw [zd_iff]; decide)) q)
    exact hP1 _ _ hK
  have num : numL (n : Int) = 32 :: (dg n 1000 ++ (dg n 100 ++ (dg n 10 ++ dg n 1))) := by
    unfold numL; rw [if_neg (by omega), Int.toNat_natCast]
  refine AW.go (bs := b_Mod_spellNumber) [8, 24] 60 t_Mod_spellNumber ?_
  refine ⟨_, v_mspell l, by decide, _, _, _, _, _, _, _, _, _, _, _, _, _, _, _, _, _, _, _, _, _, _, _, _, _, _, _, _, 0, 0, 0, w, cs, 32, rfl, rfl, hw, by omega, ?_⟩
  refine mnum_ten l (u := 1) (by omega) (by omega) (by omega) (fun h => ?_) (fun h => ?_)
  · refine mnum_dig l (spe := 0) (wan := 0) (fou := 0) (u := 1) (cs := cs ++ [32]) (by omega) (by omega) (by omega) (Or.inr rfl) hw (by omega) ?_
    exact fin _ (by rw [num, hz 1000 (by omega) (by omega), hz 100 (by omega) (by omega), hz 10 (by omega) (by omega), List.append_assoc]; rfl)
  refine mnum_ten l (u := 10) (by omega) (by omega) (by omega) (fun h => ?_) (fun h => ?_)
  · refine mnum_dig l (spe := 0) (wan := 0) (fou := 0) (u := 10) (cs := cs ++ [32]) (by omega) (by omega) (by omega) (Or.inl (by omega)) hw (by omega) ?_
    refine mnum_dig l (spe := 0) (wan := 0) (fou := 0) (u := 1) (cs := cs ++ [32] ++ dg n 10) (by omega) (by omega) (by omega) (Or.inr rfl) hw (by rw [List.length_append]; omega) ?_
    exact fin _ (by rw [num, hz 1000 (by omega) (by omega), hz 100 (by omega) (by omega), List.append_assoc, List.append_assoc]; rfl)
  refine mnum_ten l (u := 100) (by omega) (by omega) (by omega) (fun h => ?_) (fun h => ?_)
  · refine mnum_dig l (spe := 0) (wan := 0) (fou := 0) (u := 100) (cs := cs ++ [32]) (by omega) (by omega) (by omega) (Or.inl (by omega)) hw (by omega) ?_
    refine mnum_dig l (spe := 0) (wan := 0) (fou := 0) (u := 10) (cs := cs ++ [32] ++ dg n 100) (by omega) (by omega) (by omega) (Or.inl (by omega)) hw (by rw [List.length_append]; omega) ?_
    refine mnum_dig l (spe := 0) (wan := 0) (fou := 0) (u := 1) (cs := cs ++ [32] ++ dg n 100 ++ dg n 10) (by omega) (by omega) (by omega) (Or.inr rfl) hw (by rw [List.length_append, List.length_append]; omega) ?_
    exact fin _ (by rw [num, hz 1000 (by omega) (by omega), List.append_assoc, List.append_assoc, List.append_assoc]; rfl)
  refine mnum_ten l (u := 1000) (by omega) (by omega) (by omega) (fun h => ?_) (fun h => by omega)
  refine mnum_dig l (spe := 0) (wan := 0) (fou := 0) (u := 1000) (cs := cs ++ [32]) (by omega) (by omega) (by omega) (Or.inl (by omega)) hw (by omega) ?_
  refine mnum_dig l (spe := 0) (wan := 0) (fou := 0) (u := 100) (cs := cs ++ [32] ++ dg n 1000) (by omega) (by omega) (by omega) (Or.inl (by omega)) hw (by rw [List.length_append]; omega) ?_
  refine mnum_dig l (spe := 0) (wan := 0) (fou := 0) (u := 10) (cs := cs ++ [32] ++ dg n 1000 ++ dg n 100) (by omega) (by omega) (by omega) (Or.inl (by omega)) hw (by rw [List.length_append, List.length_append]; omega) ?_
  refine mnum_dig l (spe := 0) (wan := 0) (fou := 0) (u := 1) (cs := cs ++ [32] ++ dg n 1000 ++ dg n 100 ++ dg n 10) (by omega) (by omega) (by omega) (Or.inr rfl) hw (by rw [List.length_append, List.length_append, List.length_append]; omega) ?_
  exact fin _ (by rw [num, List.append_assoc, List.append_assoc, List.append_assoc, List.append_assoc]; rfl)
