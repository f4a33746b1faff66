/-! texts: their length, their bytes -/
def sln (i : Nat) : Nat := (k_str.getD i []).length
def chr (i k : Nat) : Nat := (k_str.getD i []).getD k 0
theorem chr_lt (i k : Nat) : chr i k < 128 := by
  have key : ∀ i, i < 19 → ∀ k, k < 7 → chr i k < 128 := by decide +kernel
  have kl : ∀ i, i < 19 → sln i ≤ 6 := by decide +kernel
  by_cases hi : i < 19
  · by_cases hk : k < 7
    · exact key i hi k hk
    · have := kl i hi
      unfold sln at this
      unfold chr
      rw [List.getD_eq_getElem?_getD, List.getElem?_eq_none (by omega)]
      exact Nat.zero_lt_succ _
  · unfold chr
    rw [List.getD_eq_getElem?_getD (l := k_str), List.getElem?_eq_none (by show 19 ≤ i; omega)]
    exact Nat.zero_lt_succ _
theorem sln_le {i : Nat} (hi : i < 19) : sln i ≤ 6 := by
  have kl : ∀ i, i < 19 → sln i ≤ 6 := by decide +kernel
  exact kl i hi
theorem d19 {i : Nat} (h : i < 19) : i = 0 ∨ i = 1 ∨ i = 2 ∨ i = 3 ∨ i = 4 ∨ i = 5 ∨ i = 6 ∨ i = 7 ∨ i = 8 ∨ i = 9 ∨ i = 10 ∨ i = 11 ∨ i = 12 ∨ i = 13 ∨ i = 14 ∨ i = 15 ∨ i = 16 ∨ i = 17 ∨ i = 18 := by omega
theorem chr_i2c : ∀ n, n < 128 → ((nI n &&& z_nn 255 0).toUInt32 % 65536).toInt32 = iI n ∧ narrow .char (.int (iI n)) = .int (iI n) := by
  decide +kernel
theorem shr_0 (x : Int32) : x >>> ((0 : Int32) &&& 31) = x := by
  have e : (0 : Int32) &&& 31 = 0 := by decide
  rw [e]
  exact Int32.shiftRight_zero
def sp_prec : Sp := (0, 0, 0, [], fun as σ K => ∃ (k n : Int) (q : Value), as = [.int (iI k), .int (iI n), q] ∧ (q = .null ∨ q = .ref 6000) ∧ σ = [] ∧ (0 ≤ k ∧ k < n ∧ n ≤ 1000) ∧ K (some (.int (iI k))) none)
set_option maxRecDepth 20000 in
theorem v_prec (l : Launch) : z_V l 278 sp_prec := by
  refine z_V.ofP (by decide +kernel) ?_
  rintro as σ K Post ⟨k, n, q, rfl, hq, rfl, hk, hK⟩ hP1 hP0
  rcases hq with rfl | rfl
  · refine AW.go (bs := b_Prec_checkIndex) [] 60 t_Prec_checkIndex ?_
    refine And.intro (fun h => ?_) (fun h => ?_)
    · rw [zc_lt0 (by omega) (by omega)] at h; omega
    · refine And.intro (fun h => ?_) (fun h => ?_)
      · exact hP0 _ hK
      · rw [zc_lt (by omega) (by omega) (by omega) (by omega)] at h; omega
  · refine AW.go (bs := b_Prec_checkIndex) [] 60 t_Prec_checkIndex ?_
    refine And.intro (fun h => ?_) (fun h => ?_)
    · rw [zc_lt0 (by omega) (by omega)] at h; omega
    · refine And.intro (fun h => ?_) (fun h => ?_)
      · exact hP0 _ hK
      · rw [zc_lt (by omega) (by omega) (by omega) (by omega)] at h; omega
def sp_scheck : Sp := (1, 0, 0, [], fun as σ K => ∃ (k n : Int), as = [.int (iI k), .int (iI n)] ∧ σ = [] ∧ (0 ≤ k ∧ k < n ∧ n ≤ 1000) ∧ K none none)
set_option maxRecDepth 20000 in
theorem v_scheck (l : Launch) : z_V l 273 sp_scheck := by
  refine z_V.ofP (by decide +kernel) ?_
  rintro as σ K Post ⟨k, n, rfl, rfl, hk, hK⟩ hP1 hP0
  refine AW.go (bs := b_Str_checkIndex) [] 60 t_Str_checkIndex ?_
  refine And.intro ?_ ?_
  · refine ⟨_, v_prec l, by decide, k, n, _, rfl, Or.inl rfl, rfl, hk, ?_⟩
    exact hP0 _ hK
  · refine ⟨_, v_prec l, by decide, k, n, _, rfl, Or.inr rfl, rfl, hk, ?_⟩
    exact hP0 _ hK
def sp_coder : Sp := (0, 0, 0, [], fun as σ K => ∃ i : Nat, as = [.ref (i + 2000)] ∧ i < 19 ∧ σ = [] ∧ K (some (.int 0)) none)
set_option maxRecDepth 20000 in
theorem v_coder (l : Launch) : z_V l 274 sp_coder := by
  refine z_V.ofP (by decide +kernel) ?_
  rintro as σ K Post ⟨i, rfl, hi, rfl, hK⟩ hP1 hP0
  rcases d19 hi with rfl | rfl | rfl | rfl | rfl | rfl | rfl | rfl | rfl | rfl | rfl | rfl | rfl | rfl | rfl | rfl | rfl | rfl | rfl <;>
  · refine AW.go (bs := b_Str_coder) [] 60 t_Str_coder ?_
    refine And.intro (fun h => absurd h (by first | decide | (rw [zd_iff]; decide))) (fun _ => ?_)
    exact And.intro (by decide) (hP0 _ hK)
def sp_latin : Sp := (0, 0, 0, [], fun as σ K => ∃ i : Nat, as = [.ref (i + 2000)] ∧ i < 19 ∧ σ = [] ∧ K (some (.int (bI true))) none)
set_option maxRecDepth 20000 in
theorem v_latin (l : Launch) : z_V l 275 sp_latin := by
  refine z_V.ofP (by decide +kernel) ?_
  rintro as σ K Post ⟨i, rfl, hi, rfl, hK⟩ hP1 hP0
  rcases d19 hi with rfl | rfl | rfl | rfl | rfl | rfl | rfl | rfl | rfl | rfl | rfl | rfl | rfl | rfl | rfl | rfl | rfl | rfl | rfl <;>
  · refine AW.go (bs := b_Str_isLatin1) [] 60 t_Str_isLatin1 ?_
    refine And.intro (fun h => absurd h (by first | decide | (rw [zd_iff]; decide))) (fun _ => ?_)
    refine And.intro (fun h => absurd rfl h) (fun _ => ?_)
    exact And.intro (Or.inr rfl) (hP0 _ hK)
def sp_slen : Sp := (1, 0, 0, [], fun as σ K => ∃ i : Nat, as = [.ref (i + 2000)] ∧ i < 19 ∧ σ = [] ∧ K (some (.int (iI (sln i : Nat)))) none)
set_option maxRecDepth 20000 in
theorem v_slen (l : Launch) : z_V l 276 sp_slen := by
  refine z_V.ofP (by decide +kernel) ?_
  rintro as σ K Post ⟨i, rfl, hi, rfl, hK⟩ hP1 hP0
  rcases d19 hi with rfl | rfl | rfl | rfl | rfl | rfl | rfl | rfl | rfl | rfl | rfl | rfl | rfl | rfl | rfl | rfl | rfl | rfl | rfl <;>
  · refine AW.go (bs := b_Str_length) [] 60 t_Str_length ?_
    refine ⟨_, v_coder l, by decide, _, rfl, by decide, rfl, ?_⟩
    show Post (some (.int (_ >>> ((0 : Int32) &&& 31)))) _
    rw [shr_0]
    exact hP0 _ hK
def sp_lchar : Sp := (2, 0, 0, [], fun as σ K => ∃ (i k : Nat), as = [.ref (i + 5000), .int (iI k)] ∧ i < 19 ∧ k < sln i ∧ σ = [] ∧ K (some (.int (iI (chr i k : Nat)))) none)
set_option maxRecDepth 20000 in
theorem v_lchar (l : Launch) : z_V l 277 sp_lchar := by
  refine z_V.ofP (by decide +kernel) ?_
  rintro as σ K Post ⟨i, k, rfl, hi, hk, rfl, hK⟩ hP1 hP0
  have hs := sln_le hi
  obtain ⟨c1, c2⟩ := chr_i2c (chr i k) (chr_lt i k)
  have c3 : narrow .char (.int ((nI (chr i k) &&& z_nn 255 0).toUInt32 % 65536).toInt32) = .int ((nI (chr i k) &&& z_nn 255 0).toUInt32 % 65536).toInt32 := by rw [c1]; exact c2
  have hK' : K (some (.int ((nI (chr i k) &&& z_nn 255 0).toUInt32 % 65536).toInt32)) none := by rw [c1]; exact hK
  obtain ⟨n, hn⟩ : ∃ n, n = sln i := ⟨_, rfl⟩
  rcases d19 hi with rfl | rfl | rfl | rfl | rfl | rfl | rfl | rfl | rfl | rfl | rfl | rfl | rfl | rfl | rfl | rfl | rfl | rfl | rfl <;>
  · refine AW.go (bs := b_Lat_charAt) [] 60 t_Lat_charAt ?_
    refine ⟨_, v_scheck l, by decide, (k : Int), (n : Int), (by rw [hn]; rfl), rfl, ⟨by omega, by omega, by omega⟩, ?_⟩
    refine And.intro (zN_in hk (by omega)) ?_
    show _ ∧ _
    rw [zN_cl (by omega)]
    exact And.intro c3 (hP0 _ hK')
def sp_char : Sp := (3, 0, 0, [], fun as σ K => ∃ (i k : Nat), as = [.ref (i + 2000), .int (iI k)] ∧ i < 19 ∧ k < sln i ∧ σ = [] ∧ K (some (.int (iI (chr i k : Nat)))) none)
set_option maxRecDepth 20000 in
theorem v_char (l : Launch) : z_V l 272 sp_char := by
  refine z_V.ofP (by decide +kernel) ?_
  rintro as σ K Post ⟨i, k, rfl, hi, hk, rfl, hK⟩ hP1 hP0
  obtain ⟨c1, c2⟩ := chr_i2c (chr i k) (chr_lt i k)
  rcases d19 hi with rfl | rfl | rfl | rfl | rfl | rfl | rfl | rfl | rfl | rfl | rfl | rfl | rfl | rfl | rfl | rfl | rfl | rfl | rfl <;>
  · refine AW.go (bs := b_Str_charAt) [] 60 t_Str_charAt ?_
    refine ⟨_, v_latin l, by decide, _, rfl, by decide, rfl, ?_⟩
    refine And.intro (fun h => absurd h (by first | decide | (rw [zd_iff]; decide))) (fun _ => ?_)
    refine ⟨_, v_lchar l, by decide, _, k, rfl, by decide, hk, rfl, ?_⟩
    exact And.intro c2 (hP0 _ hK)
