/-! State's small methods. Its world: the object, its three rows -/
def wS (f s t : Nat → Int32) : List AE := [.inr (.inr (6, [.ref 1, .ref 2, .ref 3])), .inl (0, 648, f), .inl (0, 6, s), .inl (0, 3, t)]
def pS : List (Nat × List Nat) := [(0, []), (0, [0]), (0, [1]), (0, [2])]
/-- a specification of a method of State that leaves it as it is -/
def spS (rk : Nat) (P : (Nat → Int32) → (Nat → Int32) → (Nat → Int32) → List Value → (Option Value → Prop) → Prop) : Sp := (rk, 0, 0, pS, fun as σ K => ∃ f s t, σ = wS f s t ∧ P f s t as (fun r => K r none))
theorem OKM.cell {M : Od} (h : OKM M) {d k c : Nat} (hd : d < 6) (hk : k < M.1 d) (hc : c < oW d) : -2 ≤ M.2.1 d k c ∧ M.2.1 d k c ≤ 9999 := by
  obtain ⟨h0, h1, h2, h3, h4, h5, h6, h7, h8, h9⟩ := h
  have hx : ∀ d, d < 6 → M.1 d ≤ 40 := fun d hd => Nat.le_trans (h9 d hd) (oX_le d)
  have w0 : oW 0 = 4 := rfl
  have w1 : oW 1 = 3 := rfl
  have w2 : oW 2 = 5 := rfl
  have w3 : oW 3 = 2 := rfl
  have w4 : oW 4 = 4 := rfl
  have w5 : oW 5 = 7 := rfl
  have x4 := hx 4 (by omega)
  match d, hd, hk, hc with
  | 0, _, hk, hc => have := h0 k hk; match c, hc with
    | 0, _ => omega
    | 1, _ => omega
    | 2, _ => omega
    | 3, _ => omega
    | c + 4, hc => omega
  | 1, _, hk, hc => have := h1 k hk; match c, hc with
    | 0, _ => omega
    | 1, _ => omega
    | 2, _ => omega
    | c + 3, hc => omega
  | 2, _, hk, hc => have := h2 k hk; match c, hc with
    | 0, _ => omega
    | 1, _ => omega
    | 2, _ => omega
    | 3, _ => omega
    | 4, _ => omega
    | c + 5, hc => omega
  | 3, _, hk, hc => have := h3 k hk; match c, hc with
    | 0, _ => omega
    | 1, _ => omega
    | c + 2, hc => omega
  | 4, _, hk, hc => have a := hx 4 (by omega); have := h4 k hk; match c, hc with
    | 0, _ => omega
    | c + 1, hc => have := this.2 (c + 1) (by omega) (by omega); omega
  | 5, _, hk, hc => have := h5 k hk; match c, hc with
    | 0, _ => omega
    | 1, _ => omega
    | 2, _ => omega
    | 3, _ => omega
    | 4, _ => omega
    | 5, _ => omega
    | 6, _ => omega
    | c + 7, hc => omega
  | d + 6, hd, _, _ => omega
def sp_has : Sp := spS 0 (fun f s t as K => ∃ (M : Od) (d : Nat) (k : Int), as = [.ref 0, .int (iI d), .int (iI k)] ∧ RS f s t M ∧ d < 6 ∧ ir k ∧ K (some (.int (bI (decide (0 ≤ k ∧ k < M.1 d))))))
theorem v_has (l : Launch) : z_V l 50 sp_has := by
  refine z_V.of (by decide +kernel) ?_
  rintro as σ K ⟨f, s, t, rfl, M, d, k, rfl, hR, hd, hk, hK⟩
  have hs := hR.size d hd
  have hm := hR.max40 d hd
  obtain ⟨k1, k2⟩ := hk
  refine AW.go (bs := b_State_has) [] 50 t_State_has ?_
  refine And.intro (fun h => ?_) (fun h => ?_)
  · rw [zc_lt0 k1 k2] at h
    refine And.intro (Or.inl rfl) (Or.inl ⟨rfl, ?_⟩)
    rwa [decide_eq_false (by omega)] at hK
  · rw [zc_lt0 k1 k2] at h
    refine And.intro (zN_in hd (by omega)) ?_
    refine And.intro (fun h2 => ?_) (fun h2 => ?_)
    · rw [zN_cl (by omega), hs, zc_ge k1 k2 (by omega) (by omega)] at h2
      refine And.intro (Or.inl rfl) (Or.inl ⟨rfl, ?_⟩)
      rwa [decide_eq_false (by omega)] at hK
    · rw [zN_cl (by omega), hs, zc_ge k1 k2 (by omega) (by omega)] at h2
      refine And.intro (Or.inr rfl) (Or.inl ⟨rfl, ?_⟩)
      rwa [decide_eq_true (by omega)] at hK
theorem zi_eq (d k c : Nat) : iI ((oB d : Nat) : Int) + iI (k : Int) * iI ((oW d : Nat) : Int) + iI (c : Int) = iI ((zi d k c : Nat) : Int) := by
  rw [iI_mul, iI_add, iI_add]; rfl
/-- a value of a static table -/
theorem z_tab {d : Nat} (xs : List Nat) (hd : d < 2147483648) : nI (xs.getD (iI (d : Int)).toNatClampNeg 0) = iI ((xs.getD d 0 : Nat) : Int) := by
  rw [zN_cl hd, iI_nI]
def sp_cell : Sp := spS 0 (fun f s t as K => ∃ (M : Od) (d k c : Nat), as = [.ref 0, .int (iI d), .int (iI k), .int (iI c)] ∧ RS f s t M ∧ d < 6 ∧ k < M.1 d ∧ c < oW d ∧ K (some (.int (iI (M.2.1 d k c)))))
theorem v_cell (l : Launch) : z_V l 52 sp_cell := by
  refine z_V.of (by decide +kernel) ?_
  rintro as σ K ⟨f, s, t, rfl, M, d, k, c, rfl, hR, hd, hk, hc, hK⟩
  have hz := zi_lt hd hk (hR.max d hd) hc
  have e := zi_eq d k c
  refine AW.go (bs := b_State_cell) [] 50 t_State_cell ?_
  refine And.intro (zN_in hd (by omega)) ?_
  refine And.intro (zN_in hd (by omega)) ?_
  have e2 : nI ([0, 96, 168, 288, 320, 368].getD (iI (d : Int)).toNatClampNeg 0) + iI (k : Int) * nI ([4, 3, 5, 2, 4, 7].getD (iI (d : Int)).toNatClampNeg 0) + iI (c : Int) = iI ((zi d k c : Nat) : Int) := by
    rw [z_tab _ (by omega), z_tab _ (by omega)]; exact e
  show _ ∧ _
  rw [e2]
  refine And.intro (zN_in hz (by omega)) (Or.inl ⟨rfl, ?_⟩)
  rw [zN_cl (by omega), hR.2.1 d k c hd hk hc]
  exact hK
def sp_isFull : Sp := spS 0 (fun f s t as K => ∃ (M : Od) (d : Nat), as = [.ref 0, .int (iI d)] ∧ RS f s t M ∧ d < 6 ∧ K (some (.int (bI (decide (oX d ≤ M.1 d))))))
theorem v_isFull (l : Launch) : z_V l 51 sp_isFull := by
  refine z_V.of (by decide +kernel) ?_
  rintro as σ K ⟨f, s, t, rfl, M, d, rfl, hR, hd, hK⟩
  have hs := hR.size d hd
  have hm := hR.max40 d hd
  have hx := oX_le d
  refine AW.go (bs := b_State_isFull) [] 50 t_State_isFull ?_
  refine And.intro (zN_in hd (by omega)) ?_
  refine And.intro (zN_in hd (by omega)) ?_
  have e2 : nI ([24, 24, 24, 16, 12, 40].getD (iI (d : Int)).toNatClampNeg 0) = iI ((oX d : Nat) : Int) := z_tab _ (by omega)
  rw [e2, zN_cl (by omega), hs]
  refine And.intro (fun h => ?_) (fun h => ?_)
  · rw [zc_lt (by omega) (by omega) (by omega) (by omega)] at h
    refine And.intro (Or.inl rfl) (Or.inl ⟨rfl, ?_⟩)
    rwa [decide_eq_false (by omega)] at hK
  · rw [zc_lt (by omega) (by omega) (by omega) (by omega)] at h
    refine And.intro (Or.inr rfl) (Or.inl ⟨rfl, ?_⟩)
    rwa [decide_eq_true (by omega)] at hK
def sp_isRecalled : Sp := spS 1 (fun f s t as K => ∃ (M : Od) (k : Nat), as = [.ref 0, .int (iI k)] ∧ RS f s t M ∧ OKM M ∧ k < M.1 5 ∧ K (some (.int (bI (decide (M.2.1 5 k 6 ≠ -2))))))
theorem v_isRecalled (l : Launch) : z_V l 57 sp_isRecalled := by
  refine z_V.of (by decide +kernel) ?_
  rintro as σ K ⟨f, s, t, rfl, M, k, rfl, hR, hO, hk, hK⟩
  have hc := hO.cell (c := 6) (by omega : 5 < 6) hk (by decide)
  refine AW.go (bs := b_State_isRecalled) [] 50 t_State_isRecalled ?_
  refine ⟨_, v_cell l, by decide, f, s, t, rfl, M, 5, k, 6, rfl, hR, by omega, hk, by decide, ?_⟩
  refine And.intro (fun h => ?_) (fun h => ?_)
  · have h := (zc_eq (by omega) (by omega) (by omega) (by omega)).mp h
    refine And.intro (Or.inl rfl) (Or.inl ⟨rfl, ?_⟩)
    rwa [decide_eq_false (by omega)] at hK
  · have h := mt (zc_eq (by omega) (by omega) (by omega) (by omega)).mpr h
    refine And.intro (Or.inr rfl) (Or.inl ⟨rfl, ?_⟩)
    rwa [decide_eq_true (by omega)] at hK
