/-! the letter: bytes are counted, one is noted -/
def strL (i : Nat) : List Nat := k_str.getD i []
def fnd (cs : List Nat) (w : Int) : Int := if 0 ≤ w ∧ w < (cs.length : Int) then (cs.getD w.toNat 0 : Nat) else -2
theorem fnd_nil (w : Int) : fnd [] w = -2 := by unfold fnd; rw [if_neg (by simp only [List.length_nil]; omega)]
theorem fnd_eq {cs : List Nat} {c : Nat} {w : Int} (h : (cs.length : Int) = w) : fnd (cs ++ [c]) w = (c : Int) := by
  subst h
  unfold fnd
  rw [if_pos (by simp only [List.length_append, List.length_cons, List.length_nil]; omega), Int.toNat_natCast, List.getD_eq_getElem?_getD, List.getElem?_concat_length]
  rfl
theorem fnd_ne {cs : List Nat} {c : Nat} {w : Int} (h : ¬ (cs.length : Int) = w) : fnd (cs ++ [c]) w = fnd cs w := by
  unfold fnd
  simp only [List.length_append, List.length_cons, List.length_nil]
  by_cases q : 0 ≤ w ∧ w < (cs.length : Int)
  · rw [if_pos (by omega), if_pos q, List.getD_eq_getElem?_getD, List.getD_eq_getElem?_getD, List.getElem?_append_left (by omega)]
  · rw [if_neg (by omega), if_neg q]
def wLs (w : Int) (cs : List Nat) : List AE := [.inr (.inr (1, [.int (iI w), .int (iI (cs.length : Int)), .int (iI (fnd cs w))]))]
def pLt : List (Nat × List Nat) := [(0, [])]
theorem len_snoc (cs : List Nat) (c : Nat) : iI (cs.length : Int) + z_nn 1 0 = iI ((cs ++ [c]).length : Int) := by
  rw [zn_inc, List.length_append]; rfl
def sp_write : Sp := (0, 0, 0, pLt, fun as σ K => ∃ (w : Int) (cs : List Nat) (c : Nat), as = [.ref 0, .int (iI (c : Int))] ∧ σ = wLs w cs ∧ ir w ∧ cs.length < 1000000 ∧ K none (some (wLs w (cs ++ [c]))))
set_option maxRecDepth 20000 in
theorem v_write (l : Launch) : z_V l 11 sp_write := by
  refine z_V.ofP (by decide +kernel) ?_
  rintro as σ K Post ⟨w, cs, c, rfl, rfl, ⟨w1, w2⟩, hl, hK⟩ hP1 hP0
  unfold wLs at hK
  rw [← len_snoc] at hK
  refine AW.go (bs := b_Letter_write) [] 60 t_Letter_write ?_
  refine And.intro (fun h => ?_) (fun h => ?_)
  · rw [zc_ne (by omega) (by omega) w1 w2] at h
    rw [fnd_ne h] at hK
    exact hP1 _ _ hK
  · rw [zc_ne (by omega) (by omega) w1 w2, Classical.not_not] at h
    rw [fnd_eq h] at hK
    exact hP1 _ _ hK
theorem wword_step (l : Launch) {Post : Option Value → List AE → Prop} {i k : Nat} {w : Int} {cs : List Nat} (hi : i < 19) (hk : k ≤ sln i) (hw : ir w) (hl : cs.length < 1000000) (h1 : k = sln i → Post none (wLs w cs)) (h2 : k < sln i → AW l 10 4 0 0 1 none Post 2 [some (.ref 0), some (.ref (i + 2000)), some (.int (iI (k : Int) + z_nn 1 0))] [] (wLs w (cs ++ [chr i k])) 0 0) :
    AW l 10 4 0 0 1 none Post 2 [some (.ref 0), some (.ref (i + 2000)), some (.int (iI (k : Int)))] [] (wLs w cs) 0 0 := by
  have hs := sln_le hi
  rcases d19 hi with rfl | rfl | rfl | rfl | rfl | rfl | rfl | rfl | rfl | rfl | rfl | rfl | rfl | rfl | rfl | rfl | rfl | rfl | rfl <;>
  · refine AW.go (bs := b_Letter_writeWord) [2] 60 t_Letter_writeWord ?_
    refine ⟨_, v_slen l, by decide, _, rfl, by decide, rfl, ?_⟩
    refine And.intro (fun h => ?_) (fun h => ?_)
    · rw [zc_ge (by omega) (by omega) (by omega) (by omega)] at h
      exact h1 (by omega)
    · rw [zc_ge (by omega) (by omega) (by omega) (by omega)] at h
      refine ⟨_, v_char l, by decide, _, k, rfl, by decide, by omega, rfl, ?_⟩
      refine ⟨_, v_write l, by decide, w, cs, chr _ k, rfl, rfl, hw, hl, ?_⟩
      exact h2 (by omega)
theorem strL_get {i k : Nat} (h : k < sln i) : (strL i).take k ++ [chr i k] = (strL i).take (k + 1) := by
  have h' : k < (strL i).length := h
  rw [List.take_add_one, List.getElem?_eq_getElem h']
  show _ ++ [(strL i).getD k 0] = _ ++ [_]
  rw [List.getD_eq_getElem?_getD, List.getElem?_eq_getElem h']
  rfl
def sp_wword : Sp := (4, 0, 0, pLt, fun as σ K => ∃ (w : Int) (cs : List Nat) (i : Nat), as = [.ref 0, .ref (i + 2000)] ∧ σ = wLs w cs ∧ i < 19 ∧ ir w ∧ cs.length < 900000 ∧ K none (some (wLs w (cs ++ strL i))))
set_option maxRecDepth 20000 in
theorem v_wword (l : Launch) : z_V l 10 sp_wword := by
  refine z_V.ofP (by decide +kernel) ?_
  rintro as σ K Post ⟨w, cs, i, rfl, rfl, hi, hw, hl, hK⟩ hP1 hP0
  have hs := sln_le hi
  have loop : ∀ (n k : Nat) (x : Int32) (cs' : List Nat), n = sln i - k → k ≤ sln i → x = iI (k : Int) → cs' = cs ++ (strL i).take k → AW l 10 4 0 0 1 none Post 2 [some (.ref 0), some (.ref (i + 2000)), some (.int x)] [] (wLs w cs') 0 0 := by
    intro n
    induction n with
    | zero =>
      intro k x cs' hn hk hx hc
      subst hx; subst hc
      refine wword_step l hi hk hw (by simp only [List.length_append, List.length_take]; omega) (fun e => ?_) (fun e => by omega)
      rw [List.take_of_length_le (by show sln i ≤ k; omega)]
      exact hP1 _ _ hK
    | succ n ih =>
      intro k x cs' hn hk hx hc
      subst hx; subst hc
      refine wword_step l hi hk hw (by simp only [List.length_append, List.length_take]; omega) (fun e => by omega) (fun e => ?_)
      rw [List.append_assoc, strL_get e]
      exact ih (k + 1) _ _ (by omega) (by omega) (zn_inc _) rfl
  have start : AW l 10 4 0 0 1 none Post 0 [some (.ref 0), some (.ref (i + 2000)), none] [] (wLs w cs) 0 0 := by
    refine AW.go (bs := b_Letter_writeWord) [2] 60 t_Letter_writeWord ?_
    exact loop _ 0 _ _ rfl (by omega) rfl (by simp)
  exact start
/-- a number, as it is written -/
def dg (v u : Nat) : List Nat := if u ≤ v ∨ u = 1 then [48 + v / u % 10] else []
def numL (v : Int) : List Nat := if v < 0 then 32 :: strL 14 else 32 :: (dg v.toNat 1000 ++ (dg v.toNat 100 ++ (dg v.toNat 10 ++ dg v.toNat 1)))
theorem dg_len (v u : Nat) : (dg v u).length ≤ 1 := by unfold dg; split <;> simp
theorem numL_len (v : Int) : (numL v).length ≤ 5 := by
  unfold numL
  split
  · decide
  · have h1 := dg_len v.toNat 1000
    have h2 := dg_len v.toNat 100
    have h3 := dg_len v.toNat 10
    have h4 := dg_len v.toNat 1
    simp only [List.length_cons, List.length_append]; omega
theorem c2c : ∀ n : Nat, n < 128 → ((iI (n : Int)).toUInt32 % 65536).toInt32 = iI (n : Int) := by decide +kernel
theorem dg_i {v u : Nat} (hv : v < 10000) (hu : 1 ≤ u) (hu2 : u ≤ 1000) : iI (48 : Int) + (iI (v : Int) / iI (u : Int) - iI (v : Int) / iI (u : Int) / iI 10 * iI 10) = iI ((48 + v / u % 10 : Nat) : Int) := by
  have h : v / u ≤ v := Nat.div_le_self v u
  have e : iI (v : Int) / iI (u : Int) = iI ((v / u : Nat) : Int) := by rw [iI_div (by omega) (by omega) (by omega) (by omega)]; rfl
  rw [e]
  generalize v / u = q at h
  rw [iI_rem (by omega) (by omega) (by omega) (by omega), iI_add]
  first | rfl | (congr 1; done) | (congr 1; omega)
theorem wnum_step (l : Launch) {Post : Option Value → List AE → Prop} {v u : Nat} {w : Int} {cs : List Nat} (hv : v < 10000) (hu : 1 ≤ u) (hu2 : u ≤ 1000) (hw : ir w) (hl : cs.length < 1000000) (h1 : AW l 9 5 0 0 1 none Post 21 [some (.ref 0), some (.int (iI (v : Int))), some (.int (iI ((u / 10 : Nat) : Int)))] [] (wLs w (cs ++ dg v u)) 0 0) :
    AW l 9 5 0 0 1 none Post 21 [some (.ref 0), some (.int (iI (v : Int))), some (.int (iI (u : Int)))] [] (wLs w cs) 0 0 := by
  have e10 : iI (u : Int) / z_nn 10 0 = iI ((u / 10 : Nat) : Int) := by
    rw [zn_i, iI_div (by omega) (by omega) (by omega) (by omega)]; rfl
  have ed := dg_i hv hu hu2
  have tail : ∀ cs' : List Nat, cs' = cs ++ dg v u → AW l 9 5 0 0 1 none Post 49 [some (.ref 0), some (.int (iI (v : Int))), some (.int (iI (u : Int)))] [] (wLs w cs') 0 0 := by
    intro cs' hc
    subst hc
    refine AW.go (bs := b_Letter_writeNumber) [21] 60 t_Letter_writeNumber ?_
    refine And.intro (by decide) ?_
    show AW _ _ _ _ _ _ _ _ _ _ _ _ _ _
    rw [e10]
    exact h1
  have put : (u ≤ v ∨ u = 1) → AW l 9 5 0 0 1 none Post 35 [some (.ref 0), some (.int (iI (v : Int))), some (.int (iI (u : Int)))] [] (wLs w cs) 0 0 := by
    intro hc
    refine AW.go (bs := b_Letter_writeNumber) [49] 60 t_Letter_writeNumber ?_
    refine And.intro (fun q => by rw [iI_0, iI_inj (by omega) (by omega) (by omega) (by omega)] at q; omega) ?_
    refine And.intro (by decide) ?_
    have e : ((z_nn 48 0 + (iI (v : Int) / iI (u : Int) - iI (v : Int) / iI (u : Int) / z_nn 10 0 * z_nn 10 0)).toUInt32 % 65536).toInt32 = iI ((48 + v / u % 10 : Nat) : Int) := by
      show ((iI (48 : Int) + (iI (v : Int) / iI (u : Int) - iI (v : Int) / iI (u : Int) / iI 10 * iI 10)).toUInt32 % 65536).toInt32 = _
      rw [ed, c2c _ (by omega)]
    show ∃ sp : Sp, _
    rw [e]
    refine ⟨_, v_write l, by decide, w, cs, 48 + v / u % 10, rfl, rfl, hw, hl, ?_⟩
    exact tail _ (by unfold dg; rw [if_pos hc])
  refine AW.go (bs := b_Letter_writeNumber) [35, 49] 60 t_Letter_writeNumber ?_
  refine And.intro (fun h => ?_) (fun h => ?_)
  · rw [zc_le0 (by omega) (by omega)] at h; omega
  · refine And.intro (fun h => ?_) (fun h => ?_)
    · rw [zc_ge (by omega) (by omega) (by omega) (by omega)] at h
      exact put (Or.inl (by omega))
    · rw [zc_ge (by omega) (by omega) (by omega) (by omega)] at h
      refine And.intro (fun h => ?_) (fun h => ?_)
      · rw [zn_i, zc_ne (by omega) (by omega) (by omega) (by omega)] at h
        exact tail _ (by unfold dg; rw [if_neg (by omega), List.append_nil])
      · rw [zn_i, zc_ne (by omega) (by omega) (by omega) (by omega)] at h
        exact put (Or.inr (by omega))
def sp_wnum : Sp := (5, 0, 0, pLt, fun as σ K => ∃ (w : Int) (cs : List Nat) (v : Int), as = [.ref 0, .int (iI v)] ∧ σ = wLs w cs ∧ -2 ≤ v ∧ v ≤ 9999 ∧ ir w ∧ cs.length < 800000 ∧ K none (some (wLs w (cs ++ numL v))))
set_option maxRecDepth 20000 in
theorem v_wnum (l : Launch) : z_V l 9 sp_wnum := by
  refine z_V.ofP (by decide +kernel) ?_
  rintro as σ K Post ⟨w, cs, v, rfl, rfl, v1, v2, hw, hl, hK⟩ hP1 hP0
  have hl2 : (cs ++ [32]).length < 800001 := by rw [List.length_append]; show cs.length + 1 < _; omega
  refine AW.go (bs := b_Letter_writeNumber) [21] 60 t_Letter_writeNumber ?_
  refine ⟨_, v_write l, by decide, w, cs, 32, rfl, rfl, hw, by omega, ?_⟩
  refine And.intro (fun h => ?_) (fun h => ?_)
  · rw [zc_ge0 (by omega) (by omega)] at h
    obtain ⟨n, rfl⟩ := Int.eq_ofNat_of_zero_le h
    unfold numL at hK
    rw [if_neg (by omega), Int.toNat_natCast] at hK
    have a1 := dg_len n 1000
    have a2 := dg_len n 100
    have a3 := dg_len n 10
    refine wnum_step l (u := 1000) (cs := cs ++ [32]) (by omega) (by omega) (by omega) hw (by omega) ?_
    refine wnum_step l (u := 100) (cs := cs ++ [32] ++ dg n 1000) (by omega) (by omega) (by omega) hw (by rw [List.length_append]; omega) ?_
    refine wnum_step l (u := 10) (cs := cs ++ [32] ++ dg n 1000 ++ dg n 100) (by omega) (by omega) (by omega) hw (by rw [List.length_append, List.length_append]; omega) ?_
    refine wnum_step l (u := 1) (cs := cs ++ [32] ++ dg n 1000 ++ dg n 100 ++ dg n 10) (by omega) (by omega) (by omega) hw (by rw [List.length_append, List.length_append, List.length_append]; omega) ?_
    refine AW.go (bs := b_Letter_writeNumber) [] 60 t_Letter_writeNumber ?_
    refine And.intro (fun _ => ?_) (fun q => absurd (show z_cond .le (iI ((1 / 10 : Nat) : Int)) 0 by first | decide | (rw [zd_iff]; decide)) q)
    show Post none (wLs w _)
    rw [List.append_assoc, List.append_assoc, List.append_assoc, List.append_assoc]
    exact hP1 _ _ hK
  · rw [zc_ge0 (by omega) (by omega)] at h
    unfold numL at hK
    rw [if_pos (by omega)] at hK
    refine ⟨_, v_wword l, by decide, w, cs ++ [32], 14, rfl, rfl, by decide, hw, by omega, ?_⟩
    show Post none (wLs w _)
    rw [List.append_assoc]
    exact hP1 _ _ hK
/-- the words of the parts -/
def wrd (p : Nat) : Nat := [5, 2, 13, 4, 12, 0, 18, 10, 17].getD p 0
theorem d9 {i : Nat} (h : i < 9) : i = 0 ∨ i = 1 ∨ i = 2 ∨ i = 3 ∨ i = 4 ∨ i = 5 ∨ i = 6 ∨ i = 7 ∨ i = 8 := by omega
theorem wrd_lt {p : Nat} (h : p < 9) : wrd p < 19 := by
  have key : ∀ p, p < 9 → wrd p < 19 := by decide
  exact key p h
def sp_wordOf : Sp := (0, 0, 0, [], fun as σ K => ∃ p : Nat, as = [.int (iI (p : Int))] ∧ p < 9 ∧ σ = [] ∧ K (some (.ref (wrd p + 2000))) none)
set_option maxRecDepth 20000 in
theorem v_wordOf (l : Launch) : z_V l 145 sp_wordOf := by
  refine z_V.ofP (by decide +kernel) ?_
  rintro as σ K Post ⟨p, rfl, hp, rfl, hK⟩ hP1 hP0
  have ex : ∀ x : Int, 0 ≤ x → x ≤ 20 → iI (p : Int) = Int32.ofInt x → (p : Int) = x := fun x h0 h1 e => (iI_inj (by omega) (by omega) (by omega) (by omega)).mp e
  refine AW.go (bs := b_Appr_wordOf) [] 60 t_Appr_wordOf ?_
  refine And.intro (fun h => ?_) ⟨fun h => ?_, fun h => ?_, fun h => ?_, fun h => ?_, fun h => ?_, fun h => ?_, fun h => ?_, fun h => ?_, fun h => ?_, trivial⟩
  · rw [iI_toInt (by omega) (by omega)] at h; omega
  · have h := ex 0 (by omega) (by omega) h
    have : p = 0 := by omega
    subst this
    exact hP0 _ hK
  · have h := ex 1 (by omega) (by omega) h
    have : p = 1 := by omega
    subst this
    exact hP0 _ hK
  · have h := ex 2 (by omega) (by omega) h
    have : p = 2 := by omega
    subst this
    exact hP0 _ hK
  · have h := ex 3 (by omega) (by omega) h
    have : p = 3 := by omega
    subst this
    exact hP0 _ hK
  · have h := ex 4 (by omega) (by omega) h
    have : p = 4 := by omega
    subst this
    exact hP0 _ hK
  · have h := ex 5 (by omega) (by omega) h
    have : p = 5 := by omega
    subst this
    exact hP0 _ hK
  · have h := ex 6 (by omega) (by omega) h
    have : p = 6 := by omega
    subst this
    exact hP0 _ hK
  · have h := ex 7 (by omega) (by omega) h
    have : p = 7 := by omega
    subst this
    exact hP0 _ hK
  · have h := ex 8 (by omega) (by omega) h
    have : p = 8 := by omega
    subst this
    exact hP0 _ hK
/-- a part's begin -/
def sepL (cs : List Nat) (i : Nat) : List Nat := cs ++ ((if cs = [] then [] else [59]) ++ strL i)
theorem strL_len (i : Nat) : (strL i).length ≤ 6 := by
  by_cases h : i < 19
  · exact sln_le h
  · unfold strL
    rw [List.getD_eq_getElem?_getD, List.getElem?_eq_none (by show 19 ≤ i; omega)]
    exact Nat.zero_le _
theorem sepL_len (cs : List Nat) (i : Nat) : (sepL cs i).length ≤ cs.length + 7 := by
  have := strL_len i
  unfold sepL
  split
  · simp only [List.length_append, List.length_nil]; omega
  · simp only [List.length_append, List.length_cons, List.length_nil]; omega
def sp_beginPart : Sp := (5, 0, 0, pLt, fun as σ K => ∃ (w : Int) (cs : List Nat) (p : Nat), as = [.ref 0, .int (iI (p : Int))] ∧ σ = wLs w cs ∧ p < 9 ∧ ir w ∧ cs.length < 800000 ∧ K none (some (wLs w (sepL cs (wrd p)))))
set_option maxRecDepth 20000 in
theorem v_beginPart (l : Launch) : z_V l 8 sp_beginPart := by
  refine z_V.ofP (by decide +kernel) ?_
  rintro as σ K Post ⟨w, cs, p, rfl, rfl, hp, hw, hl, hK⟩ hP1 hP0
  have tail : ∀ cs' : List Nat, cs'.length < 800001 → (cs' ++ strL (wrd p) = sepL cs (wrd p)) → AW l 8 5 0 0 1 none Post 13 [some (.ref 0), some (.int (iI (p : Int)))] [] (wLs w cs') 0 0 := by
    intro cs' hl' he
    rw [← he] at hK
    rcases d9 hp with rfl | rfl | rfl | rfl | rfl | rfl | rfl | rfl | rfl <;>
    · refine AW.go (bs := b_Letter_beginPart) [] 60 t_Letter_beginPart ?_
      refine ⟨_, v_wordOf l, by decide, _, rfl, hp, rfl, ?_⟩
      refine ⟨_, v_wword l, by decide, w, cs', _, rfl, rfl, by decide, hw, by omega, ?_⟩
      exact hP1 _ _ hK
  refine AW.go (bs := b_Letter_beginPart) [13] 60 t_Letter_beginPart ?_
  refine And.intro (fun h => ?_) (fun h => ?_)
  · rw [zc_le0 (by omega) (by omega)] at h
    refine tail cs (by omega) ?_
    have : cs = [] := List.length_eq_zero_iff.mp (by omega)
    unfold sepL
    rw [if_pos this, List.nil_append]
  · rw [zc_le0 (by omega) (by omega)] at h
    refine ⟨_, v_write l, by decide, w, cs, 59, rfl, rfl, hw, by omega, ?_⟩
    refine tail (cs ++ [59]) (by rw [List.length_append]; show cs.length + 1 < _; omega) ?_
    unfold sepL
    rw [if_neg (by rintro rfl; simp at h), List.append_assoc]
