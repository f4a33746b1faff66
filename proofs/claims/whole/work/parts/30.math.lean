/-! THE MATHEMATICS: an order with its requests. M.1 d: how many rows of kind d (0 hold, 1 away, 2 stand, 3 foe, 4 post, 5 request); M.2.1 d k c: the cell; M.2.2 w: window, pace, wait -/
abbrev Od : Type := (Nat → Nat) × (Nat → Nat → Nat → Int) × (Nat → Nat)
def oW (d : Nat) : Nat := [4, 3, 5, 2, 4, 7].getD d 0
def oX (d : Nat) : Nat := [24, 24, 24, 16, 12, 40].getD d 0
def oB (d : Nat) : Nat := [0, 96, 168, 288, 320, 368].getD d 0
def oF (d : Nat) : Nat := [2, 1, 2].getD d 0
/-- the place of a cell in the class's row -/
def zi (d k c : Nat) : Nat := oB d + k * oW d + c
/-- the class's three rows hold M -/
def RS (f s t : Nat → Int32) (M : Od) : Prop :=
  (∀ d, d < 6 → s d = iI (M.1 d : Int) ∧ M.1 d ≤ oX d) ∧ (∀ d k c, d < 6 → k < M.1 d → c < oW d → f (zi d k c) = iI (M.2.1 d k c)) ∧ (∀ w, w < 3 → t w = iI (M.2.2 w : Int))
/-- all numbers are as the document has them -/
def OKM (M : Od) : Prop :=
  (∀ k, k < M.1 0 → 0 ≤ M.2.1 0 k 0 ∧ M.2.1 0 k 0 < M.1 4 ∧ 0 ≤ M.2.1 0 k 1 ∧ M.2.1 0 k 1 < 16 ∧ 0 ≤ M.2.1 0 k 2 ∧ M.2.1 0 k 2 ≤ M.2.1 0 k 3 ∧ M.2.1 0 k 3 ≤ 999) ∧
  (∀ k, k < M.1 1 → 0 ≤ M.2.1 1 k 0 ∧ M.2.1 1 k 0 < 16 ∧ 0 ≤ M.2.1 1 k 1 ∧ M.2.1 1 k 1 ≤ M.2.1 1 k 2 ∧ M.2.1 1 k 2 ≤ 999) ∧
  (∀ k, k < M.1 2 → 0 ≤ M.2.1 2 k 0 ∧ M.2.1 2 k 0 < 16 ∧ 0 ≤ M.2.1 2 k 1 ∧ M.2.1 2 k 1 < 16 ∧ M.2.1 2 k 0 ≠ M.2.1 2 k 1 ∧ 0 ≤ M.2.1 2 k 2 ∧ M.2.1 2 k 2 ≤ M.2.1 2 k 3 ∧ M.2.1 2 k 3 ≤ 999 ∧ 0 ≤ M.2.1 2 k 4 ∧ M.2.1 2 k 4 ≤ 9999) ∧
  (∀ k, k < M.1 3 → 0 ≤ M.2.1 3 k 0 ∧ M.2.1 3 k 0 < 16 ∧ 0 ≤ M.2.1 3 k 1 ∧ M.2.1 3 k 1 < 10) ∧
  (∀ k, k < M.1 4 → (M.2.1 4 k 0 = -2 ∨ (0 ≤ M.2.1 4 k 0 ∧ M.2.1 4 k 0 < k)) ∧ ∀ c, 1 ≤ c → c < 4 → 0 ≤ M.2.1 4 k c ∧ M.2.1 4 k c ≤ 9999) ∧
  (∀ k, k < M.1 5 → 0 ≤ M.2.1 5 k 0 ∧ M.2.1 5 k 0 < 16 ∧ 0 ≤ M.2.1 5 k 1 ∧ M.2.1 5 k 1 < M.1 4 ∧ 0 ≤ M.2.1 5 k 2 ∧ M.2.1 5 k 2 < 10 ∧ 0 ≤ M.2.1 5 k 3 ∧ M.2.1 5 k 3 < 3 ∧ 1 ≤ M.2.1 5 k 4 ∧ M.2.1 5 k 4 ≤ 9999 ∧ 0 ≤ M.2.1 5 k 5 ∧ M.2.1 5 k 5 ≤ 999 ∧ (M.2.1 5 k 6 = -2 ∨ (0 ≤ M.2.1 5 k 6 ∧ M.2.1 5 k 6 ≤ 999))) ∧
  M.2.2 0 ≤ 99 ∧ M.2.2 1 ≤ 9 ∧ M.2.2 2 ≤ 30 ∧ ∀ d, d < 6 → M.1 d ≤ oX d
theorem zi_lt {d k c : Nat} {M : Od} (hd : d < 6) (hk : k < M.1 d) (hx : M.1 d ≤ oX d) (hc : c < oW d) : zi d k c < 648 := by
  have key : ∀ d, d < 6 → ∀ c, c < oW d → oB d + (oX d - 1) * oW d + c < 648 ∧ 0 < oX d := by decide +kernel
  obtain ⟨h1, h2⟩ := key d hd c hc
  unfold zi
  have : k * oW d ≤ (oX d - 1) * oW d := Nat.mul_le_mul_right _ (by omega)
  omega
theorem RS.size {f s t : Nat → Int32} {M : Od} (h : RS f s t M) (d : Nat) (hd : d < 6) : s d = iI (M.1 d : Int) := (h.1 d hd).1
theorem RS.max {f s t : Nat → Int32} {M : Od} (h : RS f s t M) (d : Nat) (hd : d < 6) : M.1 d ≤ oX d := (h.1 d hd).2
theorem oX_le : ∀ d, oX d ≤ 40 := by
  intro d
  by_cases h : d < 6
  · have key : ∀ d, d < 6 → oX d ≤ 40 := by decide +kernel
    exact key d h
  · unfold oX; rw [List.getD_eq_getElem?_getD, List.getElem?_eq_none (by show 6 ≤ d; omega)]; exact Nat.zero_le _
theorem RS.max40 {f s t : Nat → Int32} {M : Od} (h : RS f s t M) (d : Nat) (hd : d < 6) : M.1 d ≤ 40 := Nat.le_trans (h.max d hd) (oX_le d)
/-! small numbers in the walk -/
theorem zn_i (t : Nat) : z_nn t 0 = iI (t : Int) := rfl
theorem zn_m (t u : Nat) : z_nn t (u + 1) = iI (-(t : Int)) := rfl
theorem zn_cl {t : Nat} (h : t < 2147483648) : (z_nn t 0).toNatClampNeg = t := by rw [zn_i, iI_cl (by omega) (by omega)]; omega
theorem zN_cl {t : Nat} (h : t < 2147483648) : (iI (t : Int)).toNatClampNeg = t := by rw [iI_cl (by omega) (by omega)]; omega
theorem zn_in {t n : Nat} (h : t < n) (h2 : t < 2147483648) : vp_in (z_nn t 0) n := by rw [zn_i, iI_in (by omega) (by omega)]; omega
theorem zN_in {t n : Nat} (h : t < n) (h2 : t < 2147483648) : vp_in (iI (t : Int)) n := by rw [iI_in (by omega) (by omega)]; omega
theorem zn_inc (k : Nat) : iI (k : Int) + z_nn 1 0 = iI ((k + 1 : Nat) : Int) := by rw [zn_i, iI_add]; rfl
/-! comparisons of the walk -/
theorem zc_lt {a b : Int} (h1 : -2147483648 ≤ a) (h2 : a ≤ 2147483647) (h3 : -2147483648 ≤ b) (h4 : b ≤ 2147483647) : z_cond .lt (iI a) (iI b) ↔ a < b := iI_lt h1 h2 h3 h4
theorem zc_ge {a b : Int} (h1 : -2147483648 ≤ a) (h2 : a ≤ 2147483647) (h3 : -2147483648 ≤ b) (h4 : b ≤ 2147483647) : z_cond .ge (iI a) (iI b) ↔ b ≤ a := iI_le h3 h4 h1 h2
theorem zc_gt {a b : Int} (h1 : -2147483648 ≤ a) (h2 : a ≤ 2147483647) (h3 : -2147483648 ≤ b) (h4 : b ≤ 2147483647) : z_cond .gt (iI a) (iI b) ↔ b < a := iI_lt h3 h4 h1 h2
theorem zc_le {a b : Int} (h1 : -2147483648 ≤ a) (h2 : a ≤ 2147483647) (h3 : -2147483648 ≤ b) (h4 : b ≤ 2147483647) : z_cond .le (iI a) (iI b) ↔ a ≤ b := iI_le h1 h2 h3 h4
theorem zc_eq {a b : Int} (h1 : -2147483648 ≤ a) (h2 : a ≤ 2147483647) (h3 : -2147483648 ≤ b) (h4 : b ≤ 2147483647) : z_cond .eq (iI a) (iI b) ↔ a = b := iI_inj h1 h2 h3 h4
theorem zc_ne {a b : Int} (h1 : -2147483648 ≤ a) (h2 : a ≤ 2147483647) (h3 : -2147483648 ≤ b) (h4 : b ≤ 2147483647) : z_cond .ne (iI a) (iI b) ↔ a ≠ b := not_congr (iI_inj h1 h2 h3 h4)
theorem zc_lt0 {a : Int} (h1 : -2147483648 ≤ a) (h2 : a ≤ 2147483647) : z_cond .lt (iI a) 0 ↔ a < 0 := by rw [iI_0]; exact zc_lt h1 h2 (by omega) (by omega)
theorem zc_ge0 {a : Int} (h1 : -2147483648 ≤ a) (h2 : a ≤ 2147483647) : z_cond .ge (iI a) 0 ↔ 0 ≤ a := by rw [iI_0]; exact zc_ge h1 h2 (by omega) (by omega)
theorem zc_gt0 {a : Int} (h1 : -2147483648 ≤ a) (h2 : a ≤ 2147483647) : z_cond .gt (iI a) 0 ↔ 0 < a := by rw [iI_0]; exact zc_gt h1 h2 (by omega) (by omega)
theorem zc_le0 {a : Int} (h1 : -2147483648 ≤ a) (h2 : a ≤ 2147483647) : z_cond .le (iI a) 0 ↔ a ≤ 0 := by rw [iI_0]; exact zc_le h1 h2 (by omega) (by omega)
theorem zc_eq0 {a : Int} (h1 : -2147483648 ≤ a) (h2 : a ≤ 2147483647) : z_cond .eq (iI a) 0 ↔ a = 0 := by rw [iI_0]; exact zc_eq h1 h2 (by omega) (by omega)
theorem zc_ne0 {a : Int} (h1 : -2147483648 ≤ a) (h2 : a ≤ 2147483647) : z_cond .ne (iI a) 0 ↔ a ≠ 0 := by rw [iI_0]; exact zc_ne h1 h2 (by omega) (by omega)
/-- a truth value -/
def bI (b : Bool) : Int32 := if b then iI 1 else iI 0
theorem bI_01 (b : Bool) : bI b = 0 ∨ bI b = 1 := by cases b <;> decide
theorem zc_bne (b : Bool) : z_cond .ne (bI b) 0 ↔ b = true := by show bI b ≠ 0 ↔ _; cases b <;> decide
theorem zc_beq (b : Bool) : z_cond .eq (bI b) 0 ↔ b = false := by show bI b = 0 ↔ _; cases b <;> decide
