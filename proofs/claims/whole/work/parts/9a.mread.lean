/-! the model reads the tape -/
def sp_mbyteAt : Sp := (0, 0, 0, pMd, fun as σ K => ∃ (now was kept isk ln sp ls ld tb rd : Nat → Int32) (und gon lef ak vn dy asd lma lim rea sts apr tz spo wro num nuA stl spe wan fou : Int32) (T : Tp) (k : Nat), as = [.ref 0, .int (iI (k : Int))] ∧ σ = (wMd now was kept isk ln sp ls ld tb rd und gon lef ak vn dy asd lma lim rea sts apr (iI (T.1 : Int)) spo wro num nuA stl spe wan fou) ∧ TB T tb ∧ k ≤ 100000 ∧ K (some (.int (iI (tbt T k)))) none)
set_option maxRecDepth 20000 in
theorem v_mbyteAt (l : Launch) : z_V l 235 sp_mbyteAt := by
  refine z_V.ofP (by decide +kernel) ?_
  rintro as σ K Post ⟨now, was, kept, isk, ln, sp, ls, ld, tb, rd, und, gon, lef, ak, vn, dy, asd, lma, lim, rea, sts, apr, tz, spo, wro, num, nuA, stl, spe, wan, fou, T, k, rfl, rfl, ⟨h4, hB⟩, hk, hK⟩ hP1 hP0
  unfold tbt byI at hK
  refine AW.go (bs := b_Mod_byteAt) [] 60 t_Mod_byteAt ?_
  refine And.intro (fun h => ?_) (fun h => ?_)
  · rw [zc_ge (by omega) (by omega) (by omega) (by omega)] at h
    rw [if_neg (by omega)] at hK
    exact hP0 _ hK
  · rw [zc_ge (by omega) (by omega) (by omega) (by omega)] at h
    rw [if_pos (by omega), Int.toNat_natCast] at hK
    refine And.intro (zN_in (by omega) (by omega)) ?_
    show Post _ _
    rw [zN_cl (by omega), hB _ (by omega), byI_iI]
    exact hP0 _ hK
def sp_mnext : Sp := (1, 0, 0, pMd, fun as σ K => ∃ (now was kept isk ln sp ls ld tb rd : Nat → Int32) (und gon lef ak vn dy asd lma lim rea sts apr tz spo wro num nuA stl spe wan fou : Int32) (T : Tp) (a : Nat), as = [.ref 0] ∧ σ = (wMd now was kept isk ln sp ls ld tb rd und gon lef ak vn dy asd lma lim rea sts apr (iI (T.1 : Int)) (iI ((a : Nat) : Int)) wro num nuA stl spe wan fou) ∧ TB T tb ∧ a ≤ T.1 ∧ K (some (.int (iI (tbt T (sk T a))))) (some (wMd now was kept isk ln sp ls ld tb rd und gon lef ak vn dy asd lma lim rea sts apr (iI (T.1 : Int)) (iI ((sk T a : Nat) : Int)) wro num nuA stl spe wan fou)))
set_option maxRecDepth 20000 in
theorem v_mnext (l : Launch) : z_V l 236 sp_mnext := by
  refine z_V.ofP (by decide +kernel) ?_
  rintro as σ K Post ⟨now, was, kept, isk, ln, sp, ls, ld, tb, rd, und, gon, lef, ak, vn, dy, asd, lma, lim, rea, sts, apr, tz, spo, wro, num, nuA, stl, spe, wan, fou, T, a, rfl, rfl, hT, ha, hK⟩ hP1 hP0
  have h4 := hT.1
  have loop : ∀ (n x : Nat) (spo : Int32), n = T.1 - x → a ≤ x → x ≤ T.1 → (∀ i, a ≤ i → i < x → isB T i = true) → spo = iI (x : Int) →
      AW l 236 1 0 0 11 none Post 0 [some (.ref 0)] [] (wMd now was kept isk ln sp ls ld tb rd und gon lef ak vn dy asd lma lim rea sts apr (iI (T.1 : Int)) spo wro num nuA stl spe wan fou) 0 0 := by
    intro n
    induction n using Nat.strongRecOn with
    | ind n ih =>
      intro x spo hn hx1 hx2 hb hs
      subst hs
      have hr := tb_rng T x
      refine AW.go (bs := b_Mod_nextByte) [0] 60 t_Mod_nextByte ?_
      refine ⟨_, v_mbyteAt l, by decide, _, _, _, _, _, _, _, _, _, _, _, _, _, _, _, _, _, _, _, _, _, _, 0, _, _, _, _, _, _, _, _, T, x, rfl, rfl, hT, by omega, ?_⟩
      refine And.intro (fun h => ?_) (fun h => ?_)
      · rw [zn_i, zc_ne (by omega) (by omega) (by omega) (by omega)] at h
        have e : sk T a = x := run_eq hx1 (by omega) hb (decide_eq_false h)
        rw [e] at hK
        refine ⟨_, v_mbyteAt l, by decide, _, _, _, _, _, _, _, _, _, _, _, _, _, _, _, _, _, _, _, _, _, _, 0, _, _, _, _, _, _, _, _, T, x, rfl, rfl, hT, by omega, ?_⟩
        exact hP1 _ _ hK
      · rw [zn_i, zc_ne (by omega) (by omega) (by omega) (by omega), Classical.not_not] at h
        have hx3 : x < T.1 := by
          by_cases q : x < T.1
          · exact q
          · rw [tb_out (by omega)] at h; omega
        refine ih _ (by omega) (x + 1) _ rfl (by omega) (by omega) (fun i h3 h5 => ?_) (zn_inc _)
        by_cases q : i = x
        · subst q; exact decide_eq_true h
        · exact hb i h3 (by omega)
  exact loop _ a _ rfl (Nat.le_refl _) ha (fun i h1 h2 => by omega) rfl
def sp_mfails : Sp := (0, 0, 0, pMd, fun as σ K => ∃ (now was kept isk ln sp ls ld tb rd : Nat → Int32) (und gon lef ak vn dy asd lma lim rea sts apr tz spo wro num nuA stl spe wan fou : Int32) (k p : Nat), as = [.ref 0, .int (iI (k : Int)), .int (iI (p : Int))] ∧ σ = (wMd now was kept isk ln sp ls ld tb rd und gon lef ak vn dy asd lma lim rea sts apr tz spo wro num nuA stl spe wan fou) ∧ K (some (.int (iI 0))) (some (wMd now was kept isk ln sp ls ld tb rd und gon lef ak vn dy asd lma lim rea sts apr tz spo (iI ((8 * p + k : Nat) : Int)) num nuA stl spe wan fou)))
set_option maxRecDepth 20000 in
theorem v_mfails (l : Launch) : z_V l 237 sp_mfails := by
  refine z_V.ofP (by decide +kernel) ?_
  rintro as σ K Post ⟨now, was, kept, isk, ln, sp, ls, ld, tb, rd, und, gon, lef, ak, vn, dy, asd, lma, lim, rea, sts, apr, tz, spo, wro, num, nuA, stl, spe, wan, fou, k, p, rfl, rfl, hK⟩ hP1 hP0
  have e : z_nn 8 0 * iI (p : Int) + iI (k : Int) = iI ((8 * p + k : Nat) : Int) := by rw [zn_i, iI_mul, iI_add]; rfl
  rw [← e] at hK
  refine AW.go (bs := b_Mod_fails) [] 60 t_Mod_fails ?_
  exact And.intro (Or.inl rfl) (hP1 _ _ hK)
/-- words of small letters -/
def isSm (i : Nat) : Prop := i = 2 ∨ i = 4 ∨ i = 5 ∨ i = 10 ∨ i = 12 ∨ i = 13 ∨ i = 14 ∨ i = 17 ∨ i = 18
set_option maxRecDepth 20000 in
theorem sm_chr : ∀ i, i < 19 → isSm i → ∀ k, k < sln i → 97 ≤ chr i k ∧ chr i k ≤ 122 := by
  have key : ∀ i, i < 19 → (i = 2 ∨ i = 4 ∨ i = 5 ∨ i = 10 ∨ i = 12 ∨ i = 13 ∨ i = 14 ∨ i = 17 ∨ i = 18) → ∀ k, k < 7 → k < sln i → 97 ≤ chr i k ∧ chr i k ≤ 122 := by decide +kernel
  intro i hi h k hk
  exact key i hi h k (by have := sln_le hi; omega) hk
set_option maxRecDepth 20000 in
theorem isWd_iff {T : Tp} (h4 : T.1 ≤ 400) {s i : Nat} (hs : s ≤ T.1) (hi : i < 19) (hm : isSm i) : isWd T s i = true ↔ (∀ k, k < sln i → tbt T (s + k) = (chr i k : Nat)) ∧ ¬ (97 ≤ tbt T (s + sln i) ∧ tbt T (s + sln i) ≤ 122) := by
  have hl := sln_le hi
  unfold isWd
  rw [decide_eq_true_eq]
  constructor
  · rintro ⟨h1, h2⟩
    refine ⟨h2, ?_⟩
    have h3 := run_end (P := isLt T) (f := 401) (a := s) isLt_out (by omega)
    have h5 : we T s = s + sln i := by have := we_rng hs; unfold wl at h1; omega
    have h6 : isLt T (we T s) = false := h3
    rw [h5] at h6
    exact of_decide_eq_false h6
  · rintro ⟨h1, h2⟩
    refine ⟨?_, h1⟩
    have : we T s = s + sln i := run_eq (by omega) (by omega) (fun j h3 h5 => ?_) (decide_eq_false h2)
    · unfold wl; omega
    · have h6 := h1 (j - s) (by omega)
      rw [show s + (j - s) = j by omega] at h6
      have h7 := sm_chr i hi hm (j - s) (by omega)
      unfold isLt
      rw [h6]
      exact decide_eq_true ⟨by omega, by omega⟩
set_option maxRecDepth 20000 in
theorem mword_end (l : Launch) {Post : Option Value → List AE → Prop} {now was kept isk ln sp ls ld tb rd : Nat → Int32} {und gon lef ak vn dy asd lma lim rea sts apr tz spo wro num nuA stl spe wan fou : Int32} {i k s : Nat} {T : Tp} (hT : TB T tb) (hs : s ≤ T.1) (hi : i < 19) (hk : k ≤ sln i) (h1 : k = sln i → Post (some (.int (bI (decide (¬ (97 ≤ tbt T (s + k) ∧ tbt T (s + k) ≤ 122)))))) (wMd now was kept isk ln sp ls ld tb rd und gon lef ak vn dy asd lma lim rea sts apr (iI (T.1 : Int)) (iI (s : Int)) wro num nuA stl spe wan fou)) (h2 : k ≠ sln i → Post (some (.int (iI 0))) (wMd now was kept isk ln sp ls ld tb rd und gon lef ak vn dy asd lma lim rea sts apr (iI (T.1 : Int)) (iI (s : Int)) wro num nuA stl spe wan fou)) :
    AW l 238 4 0 0 11 none Post 51 [some (.ref 0), some (.ref (i + 2000)), some (.int (iI (s : Int))), some (.int (iI (k : Int)))] [] (wMd now was kept isk ln sp ls ld tb rd und gon lef ak vn dy asd lma lim rea sts apr (iI (T.1 : Int)) (iI (s : Int)) wro num nuA stl spe wan fou) 0 0 := by
  have hl := sln_le hi
  have h4 := hT.1
  have hr := tb_rng T (s + k)
  have ea : iI (s : Int) + iI (k : Int) = iI ((s + k : Nat) : Int) := by rw [iI_add]; rfl
  rcases d19 hi with rfl | rfl | rfl | rfl | rfl | rfl | rfl | rfl | rfl | rfl | rfl | rfl | rfl | rfl | rfl | rfl | rfl | rfl | rfl <;>
  · refine AW.go (bs := b_Mod_isWord) [] 60 t_Mod_isWord ?_
    refine ⟨_, v_slen l, by decide, _, rfl, by decide, rfl, ?_⟩
    refine And.intro (fun h => ?_) (fun h => ?_)
    · rw [zc_ne (by omega) (by omega) (by omega) (by omega)] at h
      exact And.intro (Or.inl rfl) (h2 (by omega))
    rw [zc_ne (by omega) (by omega) (by omega) (by omega), Classical.not_not] at h
    show ∃ sp : Sp, _
    rw [ea]
    refine ⟨_, v_mbyteAt l, by decide, _, _, _, _, _, _, _, _, _, _, _, _, _, _, _, _, _, _, _, _, _, _, 0, _, _, _, _, _, _, _, _, T, s + k, rfl, rfl, hT, by omega, ?_⟩
    refine ⟨_, v_in l, by decide, rfl, tbt T (s + k), 97, 122, _, _, _, rfl, l_i (by omega) (by omega), l_k 97, l_k 122, ⟨by omega, by omega⟩, ⟨by omega, by omega⟩, ⟨by omega, by omega⟩, ?_⟩
    have h1 := h1 (by omega)
    refine And.intro (fun q => ?_) (fun q => ?_)
    · rw [zc_bne, decide_eq_true_eq] at q
      rw [decide_eq_false (fun w => w q)] at h1
      exact And.intro (Or.inl rfl) h1
    · rw [zc_bne, decide_eq_true_eq] at q
      rw [decide_eq_true q] at h1
      exact And.intro (Or.inr rfl) h1
set_option maxRecDepth 20000 in
theorem mword_loop (l : Launch) {Post : Option Value → List AE → Prop} {now was kept isk ln sp ls ld tb rd : Nat → Int32} {und gon lef ak vn dy asd lma lim rea sts apr tz spo wro num nuA stl spe wan fou : Int32} {i k s : Nat} {T : Tp} (hT : TB T tb) (hs : s ≤ T.1) (hi : i < 19) (hk : k ≤ sln i) (h1 : (k = sln i ∨ tbt T (s + k) ≠ (chr i k : Nat)) → AW l 238 4 0 0 11 none Post 51 [some (.ref 0), some (.ref (i + 2000)), some (.int (iI (s : Int))), some (.int (iI (k : Int)))] [] (wMd now was kept isk ln sp ls ld tb rd und gon lef ak vn dy asd lma lim rea sts apr (iI (T.1 : Int)) (iI (s : Int)) wro num nuA stl spe wan fou) 0 0) (h2 : k < sln i → tbt T (s + k) = (chr i k : Nat) → AW l 238 4 0 0 11 none Post 22 [some (.ref 0), some (.ref (i + 2000)), some (.int (iI (s : Int))), some (.int (iI (k : Int) + z_nn 1 0))] [] (wMd now was kept isk ln sp ls ld tb rd und gon lef ak vn dy asd lma lim rea sts apr (iI (T.1 : Int)) (iI (s : Int)) wro num nuA stl spe wan fou) 0 0) :
    AW l 238 4 0 0 11 none Post 22 [some (.ref 0), some (.ref (i + 2000)), some (.int (iI (s : Int))), some (.int (iI (k : Int)))] [] (wMd now was kept isk ln sp ls ld tb rd und gon lef ak vn dy asd lma lim rea sts apr (iI (T.1 : Int)) (iI (s : Int)) wro num nuA stl spe wan fou) 0 0 := by
  have hl := sln_le hi
  have h4 := hT.1
  have hr := tb_rng T (s + k)
  have hc := chr_lt i k
  have ea : iI (s : Int) + iI (k : Int) = iI ((s + k : Nat) : Int) := by rw [iI_add]; rfl
  rcases d19 hi with rfl | rfl | rfl | rfl | rfl | rfl | rfl | rfl | rfl | rfl | rfl | rfl | rfl | rfl | rfl | rfl | rfl | rfl | rfl <;>
  · refine AW.go (bs := b_Mod_isWord) [22, 51] 60 t_Mod_isWord ?_
    refine ⟨_, v_slen l, by decide, _, rfl, by decide, rfl, ?_⟩
    refine And.intro (fun h => ?_) (fun h => ?_)
    · rw [zc_ge (by omega) (by omega) (by omega) (by omega)] at h
      exact h1 (Or.inl (by omega))
    rw [zc_ge (by omega) (by omega) (by omega) (by omega)] at h
    show ∃ sp : Sp, _
    rw [ea]
    refine ⟨_, v_mbyteAt l, by decide, _, _, _, _, _, _, _, _, _, _, _, _, _, _, _, _, _, _, _, _, _, _, 0, _, _, _, _, _, _, _, _, T, s + k, rfl, rfl, hT, by omega, ?_⟩
    refine ⟨_, v_char l, by decide, _, k, rfl, by decide, by omega, rfl, ?_⟩
    refine And.intro (fun q => ?_) (fun q => ?_)
    · rw [zc_ne (by omega) (by omega) (by omega) (by omega)] at q
      exact h1 (Or.inr q)
    · rw [zc_ne (by omega) (by omega) (by omega) (by omega), Classical.not_not] at q
      exact h2 (by omega) q
def sp_misWord : Sp := (4, 0, 0, pMd, fun as σ K => ∃ (now was kept isk ln sp ls ld tb rd : Nat → Int32) (und gon lef ak vn dy asd lma lim rea sts apr tz spo wro num nuA stl spe wan fou : Int32) (T : Tp) (a i : Nat), as = [.ref 0, .ref (i + 2000)] ∧ σ = (wMd now was kept isk ln sp ls ld tb rd und gon lef ak vn dy asd lma lim rea sts apr (iI (T.1 : Int)) (iI ((a : Nat) : Int)) wro num nuA stl spe wan fou) ∧ TB T tb ∧ a ≤ T.1 ∧ i < 19 ∧ isSm i ∧ K (some (.int (bI (isWd T (sk T a) i)))) (some (wMd now was kept isk ln sp ls ld tb rd und gon lef ak vn dy asd lma lim rea sts apr (iI (T.1 : Int)) (iI ((sk T a : Nat) : Int)) wro num nuA stl spe wan fou)))
set_option maxRecDepth 20000 in
theorem v_misWord (l : Launch) : z_V l 238 sp_misWord := by
  refine z_V.ofP (by decide +kernel) ?_
  rintro as σ K Post ⟨now, was, kept, isk, ln, sp, ls, ld, tb, rd, und, gon, lef, ak, vn, dy, asd, lma, lim, rea, sts, apr, tz, spo, wro, num, nuA, stl, spe, wan, fou, T, a, i, rfl, rfl, hT, ha, hi, hm, hK⟩ hP1 hP0
  have h4 := hT.1
  have hs := sk_rng ha
  have hw := isWd_iff h4 hs.2 hi hm
  have loop : ∀ (n k : Nat) (x : Int32), n = sln i - k → k ≤ sln i → x = iI (k : Int) → (∀ j, j < k → tbt T (sk T a + j) = (chr i j : Nat)) → AW l 238 4 0 0 11 none Post 22 [some (.ref 0), some (.ref (i + 2000)), some (.int (iI ((sk T a : Nat) : Int))), some (.int x)] [] (wMd now was kept isk ln sp ls ld tb rd und gon lef ak vn dy asd lma lim rea sts apr (iI (T.1 : Int)) (iI ((sk T a : Nat) : Int)) wro num nuA stl spe wan fou) 0 0 := by
    intro n
    induction n with
    | zero =>
      intro k x hn hk hx hj
      subst hx
      have ek : k = sln i := by omega
      refine mword_loop l (tz := 0) (spo := 0) hT hs.2 hi hk (fun _ => ?_) (fun q => by omega)
      refine mword_end l (tz := 0) (spo := 0) hT hs.2 hi hk (fun e => ?_) (fun e => absurd ek e)
      subst e
      have : isWd T (sk T a) i = decide (¬ (97 ≤ tbt T (sk T a + sln i) ∧ tbt T (sk T a + sln i) ≤ 122)) := by
        rw [Bool.eq_iff_iff, hw, decide_eq_true_eq]
        exact ⟨fun q => q.2, fun q => ⟨hj, q⟩⟩
      rw [this] at hK
      exact hP1 _ _ hK
    | succ n ih =>
      intro k x hn hk hx hj
      subst hx
      refine mword_loop l (tz := 0) (spo := 0) hT hs.2 hi hk (fun q => ?_) (fun q e => ?_)
      · have q : tbt T (sk T a + k) ≠ (chr i k : Nat) := by
          rcases q with q | q
          · omega
          · exact q
        refine mword_end l (tz := 0) (spo := 0) hT hs.2 hi hk (fun e => by omega) (fun _ => ?_)
        have : isWd T (sk T a) i = false := by
          cases hb : isWd T (sk T a) i with
          | false => rfl
          | true => exact absurd ((hw.mp hb).1 k (by omega)) q
        rw [this] at hK
        exact hP1 _ _ hK
      · refine ih (k + 1) _ (by omega) (by omega) (zn_inc _) (fun j hj2 => ?_)
        by_cases e2 : j = k
        · subst e2; exact e
        · exact hj j (by omega)
  have hr := tb_rng T (sk T a)
  have start : AW l 238 4 0 0 11 none Post 0 [some (.ref 0), some (.ref (i + 2000)), none, none] [] (wMd now was kept isk ln sp ls ld tb rd und gon lef ak vn dy asd lma lim rea sts apr (iI (T.1 : Int)) (iI ((a : Nat) : Int)) wro num nuA stl spe wan fou) 0 0 := by
    refine AW.go (bs := b_Mod_isWord) [22] 60 t_Mod_isWord ?_
    refine ⟨_, v_mnext l, by decide, _, _, _, _, _, _, _, _, _, _, _, _, _, _, _, _, _, _, _, _, _, _, 0, 0, _, _, _, _, _, _, _, T, a, rfl, rfl, hT, ha, ?_⟩
    refine And.symm (And.intro (fun h => ?_) (fun h => ?_))
    · rw [zn_m, zc_ne (by omega) (by omega) (by omega) (by omega), Classical.not_not] at h
      have e : T.1 = sk T a := by
        by_cases q : sk T a < T.1
        · have := tb_in q; omega
        · omega
      have hl := loop _ 0 _ rfl (by omega) rfl (fun j hj => by omega)
      have e2 : iI (T.1 : Int) = iI ((sk T a : Nat) : Int) := by rw [← e]
      show AW _ _ _ _ _ _ _ _ _ _ _ _ _ _
      rw [e2]
      rw [e2] at hl
      exact hl
    · exact loop _ 0 _ rfl (by omega) rfl (fun j hj => by omega)
  exact start
def sp_mtakes : Sp := (2, 0, 0, pMd, fun as σ K => ∃ (now was kept isk ln sp ls ld tb rd : Nat → Int32) (und gon lef ak vn dy asd lma lim rea sts apr tz spo wro num nuA stl spe wan fou : Int32) (a i : Nat) (b : Bool), as = [.ref 0, .ref (i + 2000), .int (bI b)] ∧ σ = (wMd now was kept isk ln sp ls ld tb rd und gon lef ak vn dy asd lma lim rea sts apr tz (iI ((a : Nat) : Int)) wro num nuA stl spe wan fou) ∧ i < 19 ∧ (b = false → K (some (.int (iI 0))) (some (wMd now was kept isk ln sp ls ld tb rd und gon lef ak vn dy asd lma lim rea sts apr tz (iI ((a : Nat) : Int)) (iI ((8 * a + 3 : Nat) : Int)) num nuA stl spe wan fou))) ∧ (b = true → K (some (.int (iI 1))) (some (wMd now was kept isk ln sp ls ld tb rd und gon lef ak vn dy asd lma lim rea sts apr tz (iI ((a + sln i : Nat) : Int)) wro num nuA stl spe wan fou))))
set_option maxRecDepth 20000 in
theorem v_mtakes (l : Launch) : z_V l 239 sp_mtakes := by
  refine z_V.ofP (by decide +kernel) ?_
  rintro as σ K Post ⟨now, was, kept, isk, ln, sp, ls, ld, tb, rd, und, gon, lef, ak, vn, dy, asd, lma, lim, rea, sts, apr, tz, spo, wro, num, nuA, stl, spe, wan, fou, a, i, b, rfl, rfl, hi, hK1, hK2⟩ hP1 hP0
  have ea : iI (a : Int) + iI ((sln i : Nat) : Int) = iI ((a + sln i : Nat) : Int) := by rw [iI_add]; rfl
  rw [← ea] at hK2
  clear ea
  rcases d19 hi with rfl | rfl | rfl | rfl | rfl | rfl | rfl | rfl | rfl | rfl | rfl | rfl | rfl | rfl | rfl | rfl | rfl | rfl | rfl <;>
  · refine AW.go (bs := b_Mod_takes) [] 60 t_Mod_takes ?_
    refine And.symm (And.intro (fun h => ?_) (fun h => ?_))
    · rw [zc_bne, Bool.not_eq_true] at h
      refine ⟨_, v_mfails l, by decide, _, _, _, _, _, _, _, _, _, _, _, _, _, _, _, _, _, _, _, _, _, _, _, _, _, _, _, _, _, _, _, 3, a, rfl, rfl, ?_⟩
      exact And.intro (Or.inl rfl) (hP1 _ _ (hK1 h))
    · rw [zc_bne] at h
      refine ⟨_, v_slen l, by decide, _, rfl, by decide, rfl, ?_⟩
      exact And.intro (Or.inr rfl) (hP1 _ _ (hK2 h))
