/-! the model's row under changes -/
theorem mb_0 : mB 0 = 57 := rfl
theorem mb_1 : mB 1 = 153 := rfl
theorem mb_2 : mB 2 = 225 := rfl
theorem mb_3 : mB 3 = 345 := rfl
theorem mb_4 : mB 4 = 9 := rfl
theorem mb_5 : mB 5 = 377 := rfl
theorem mi_inj {d k c d' k' c' : Nat} (hd : d < 6) (hd' : d' < 6) (hk : k < oX d) (hk' : k' < oX d') (hc : c < oW d) (hc' : c' < oW d') (h : mi d k c = mi d' k' c') : d = d' ∧ k = k' ∧ c = c' := by
  rcases d6 hd with rfl | rfl | rfl | rfl | rfl | rfl <;> rcases d6 hd' with rfl | rfl | rfl | rfl | rfl | rfl <;> simp only [mi, mb_0, mb_1, mb_2, mb_3, mb_4, mb_5, w_0, w_1, w_2, w_3, w_4, w_5, x_0, x_1, x_2, x_3, x_4, x_5] at * <;> refine ⟨?_, ?_, ?_⟩ <;> first | trivial | omega
theorem mi_lt' {d k c : Nat} (hd : d < 6) (hk : k < oX d) (hc : c < oW d) : 9 ≤ mi d k c ∧ mi d k c < 657 := by
  rcases d6 hd with rfl | rfl | rfl | rfl | rfl | rfl <;> simp only [mi, mb_0, mb_1, mb_2, mb_3, mb_4, mb_5, w_0, w_1, w_2, w_3, w_4, w_5, x_0, x_1, x_2, x_3, x_4, x_5] at * <;> omega
theorem mS_lt {d : Nat} (hd : d < 6) : mS d < 9 ∧ (mS d < 5 ∨ mS d = 8) := by
  rcases d6 hd with rfl | rfl | rfl | rfl | rfl | rfl <;> decide
theorem mS_inj {d d' : Nat} (hd : d < 6) (hd' : d' < 6) (h : mS d = mS d') : d = d' := by
  rcases d6 hd with rfl | rfl | rfl | rfl | rfl | rfl <;> rcases d6 hd' with rfl | rfl | rfl | rfl | rfl | rfl <;> first | rfl | (revert h; decide)
theorem RM.cong {row row' : Nat → Int32} {M : Od} (h : RM row M) (e : ∀ k, k < 657 → row' k = row k) : RM row' M := by
  refine ⟨fun d hd => ?_, fun d k c hd hk hc => ?_, fun w hw => ?_⟩
  · rw [e _ (by have := mS_lt hd; omega)]; exact h.1 d hd
  · rw [e _ (mi_lt' hd (Nat.lt_of_lt_of_le hk (h.1 d hd).2) hc).2]; exact h.2.1 d k c hd hk hc
  · rw [e _ (by omega)]; exact h.2.2 w hw
theorem RM.add {row row' : Nat → Int32} {M : Od} (h : RM row M) {d : Nat} (hd : d < 6) (hn : M.1 d < oX d) {r : Nat → Int} (h1 : ∀ c, c < oW d → row' (mi d (M.1 d) c) = iI (mVal d c (r c))) (h2 : row' (mS d) = iI ((M.1 d + 1 : Nat) : Int)) (h3 : ∀ y, y ≠ mS d → (∀ c, c < oW d → y ≠ mi d (M.1 d) c) → row' y = row y) : RM row' (oAdd M d r) := by
  have sep : ∀ {x c : Nat}, x < 9 → c < oW d → x ≠ mi d (M.1 d) c := fun hx hc => by have := mi_lt' hd hn hc; omega
  refine ⟨fun x hx => ?_, fun x k c hx hk hc => ?_, fun w hw => ?_⟩
  · show row' (mS x) = iI ((if x = d then M.1 x + 1 else M.1 x : Nat) : Int) ∧ (if x = d then M.1 x + 1 else M.1 x) ≤ oX x
    by_cases e : x = d
    · subst e; rw [if_pos rfl]; exact ⟨h2, by omega⟩
    · rw [if_neg e, h3 _ (fun q => e (mS_inj hx hd q)) (fun c hc => sep (mS_lt hx).1 hc)]; exact h.1 x hx
  · replace hk : k < (if x = d then M.1 x + 1 else M.1 x) := hk
    show row' (mi x k c) = iI (mVal x c (if x = d ∧ k = M.1 d then r c else M.2.1 x k c))
    by_cases e : x = d ∧ k = M.1 d
    · rw [if_pos e, e.1, e.2]; exact h1 c (by rw [← e.1]; exact hc)
    · rw [if_neg e]
      have hk' : k < M.1 x := by
        by_cases e1 : x = d
        · rw [if_pos e1] at hk
          subst e1
          have : ¬ k = M.1 x := fun q => e ⟨rfl, q⟩
          omega
        · rw [if_neg e1] at hk; exact hk
      have hkx := Nat.lt_of_lt_of_le hk' (h.1 x hx).2
      rw [h3 _ (fun q => by have := mi_lt' hx hkx hc; have := (mS_lt hd).1; omega) (fun c' hc' q => ?_)]
      · exact h.2.1 x k c hx hk' hc
      · obtain ⟨q1, q2, -⟩ := mi_inj hx hd hkx hn hc hc' q
        exact e ⟨q1, q2⟩
  · rw [h3 _ (fun q => by have := (mS_lt hd).2; omega) (fun c hc => sep (by omega) hc)]; exact h.2.2 w hw
theorem RM.put {row : Nat → Int32} {M : Od} (h : RM row M) {d k c : Nat} (hd : d < 6) (hk : k < M.1 d) (hc : c < oW d) (v : Int) : RM (upd row (mi d k c) (iI (mVal d c v))) (oPut M d k c v) := by
  have hkx := Nat.lt_of_lt_of_le hk (h.1 d hd).2
  have hz := mi_lt' hd hkx hc
  refine ⟨fun x hx => ?_, fun x i y hx hi hy => ?_, fun w hw => ?_⟩
  · unfold upd; rw [if_neg (by have := (mS_lt hx).1; omega)]; exact h.1 x hx
  · show upd row (mi d k c) (iI (mVal d c v)) (mi x i y) = iI (mVal x y (if x = d ∧ i = k ∧ y = c then v else M.2.1 x i y))
    unfold upd
    by_cases e : mi x i y = mi d k c
    · obtain ⟨e1, e2, e3⟩ := mi_inj hx hd (Nat.lt_of_lt_of_le hi (h.1 x hx).2) hkx hy hc e
      rw [if_pos e, if_pos ⟨e1, e2, e3⟩, e1, e3]
    · rw [if_neg e, if_neg (fun q => e (by rw [q.1, q.2.1, q.2.2]))]
      exact h.2.1 x i y hx hi hy
  · unfold upd; rw [if_neg (by omega)]; exact h.2.2 w hw
theorem RM.set {row : Nat → Int32} {M : Od} (h : RM row M) {w : Nat} (hw : w < 3) (v : Nat) : RM (upd row (5 + w) (iI (v : Int))) (oSet M w v) := by
  refine ⟨fun x hx => ?_, fun x i y hx hi hy => ?_, fun u hu => ?_⟩
  · unfold upd; rw [if_neg (by have := (mS_lt hx).2; omega)]; exact h.1 x hx
  · have := mi_lt' hx (Nat.lt_of_lt_of_le hi (h.1 x hx).2) hy
    unfold upd; rw [if_neg (by omega)]; exact h.2.1 x i y hx hi hy
  · show upd row (5 + w) (iI (v : Int)) (5 + u) = iI ((if u = w then v else M.2.2 u : Nat) : Int)
    unfold upd
    by_cases e : u = w
    · rw [if_pos (by omega), if_pos e]
    · rw [if_neg (by omega), if_neg e]; exact h.2.2 u hu
theorem RM.del {row row' : Nat → Int32} {M : Od} (h : RM row M) {d k : Nat} (hd : d < 4) (hk : k < M.1 d) (h1 : ∀ j, mi d k 0 ≤ j → j < mi d (M.1 d - 1) 0 → row' j = row (j + oW d)) (h2 : row' (mS d) = iI ((M.1 d : Int) - 1)) (h3 : ∀ j, j ≠ mS d → ¬ (mi d k 0 ≤ j ∧ j < mi d (M.1 d - 1) 0) → row' j = row j) : RM row' (oDel M d k) := by
  have mx := (h.1 d (by omega)).2
  refine ⟨fun x hx => ?_, fun x i c hx hi hc => ?_, fun w hw => ?_⟩
  · show row' (mS x) = iI ((if x = d then M.1 x - 1 else M.1 x : Nat) : Int) ∧ (if x = d then M.1 x - 1 else M.1 x) ≤ oX x
    by_cases e : x = d
    · subst e; rw [if_pos rfl, h2]; exact ⟨by congr 1; omega, by omega⟩
    · rw [if_neg e, h3 _ (fun q => e (mS_inj hx (by omega) q)) (fun q => ?_)]
      · exact h.1 x hx
      · have h9 := mi_lt' (c := 0) (by omega : d < 6) (Nat.lt_of_lt_of_le hk mx) (by rcases d4 hd with rfl | rfl | rfl | rfl <;> decide)
        have := (mS_lt hx).1
        omega
  · replace hi : i < (if x = d then M.1 x - 1 else M.1 x) := hi
    show row' (mi x i c) = iI (mVal x c (if x = d ∧ k ≤ i then M.2.1 x (i + 1) c else M.2.1 x i c))
    have mxx := (h.1 x hx).2
    by_cases e : x = d
    · subst e
      rw [if_pos rfl] at hi
      have hix := mi_lt' hx (show i < oX x by omega) hc
      by_cases e2 : k ≤ i
      · have hin : mi x k 0 ≤ mi x i c ∧ mi x i c < mi x (M.1 x - 1) 0 := by
          rcases d6 hx with rfl | rfl | rfl | rfl | rfl | rfl <;> simp only [mi, w_0, w_1, w_2, w_3, w_4, w_5] at * <;> refine ⟨?_, ?_⟩ <;> omega
        have hnx : mi x i c + oW x = mi x (i + 1) c := by
          rcases d6 hx with rfl | rfl | rfl | rfl | rfl | rfl <;> simp only [mi, w_0, w_1, w_2, w_3, w_4, w_5] at * <;> omega
        rw [h1 _ hin.1 hin.2, hnx, if_pos ⟨rfl, e2⟩]
        exact h.2.1 x (i + 1) c hx (by omega) hc
      · have hin : ¬ (mi x k 0 ≤ mi x i c ∧ mi x i c < mi x (M.1 x - 1) 0) := by
          rcases d6 hx with rfl | rfl | rfl | rfl | rfl | rfl <;> simp only [mi, w_0, w_1, w_2, w_3, w_4, w_5] at * <;> omega
        rw [h3 _ (by have := (mS_lt hx).1; omega) hin, if_neg (fun q => e2 q.2)]
        exact h.2.1 x i c hx (by omega) hc
    · rw [if_neg e] at hi
      have hix := mi_lt' hx (show i < oX x by omega) hc
      have hin : ¬ (mi d k 0 ≤ mi x i c ∧ mi x i c < mi d (M.1 d - 1) 0) := by
        rcases d6 hx with rfl | rfl | rfl | rfl | rfl | rfl <;> rcases d4 hd with rfl | rfl | rfl | rfl <;> first | exact absurd rfl e | (simp only [mi, mb_0, mb_1, mb_2, mb_3, mb_4, mb_5, w_0, w_1, w_2, w_3, w_4, w_5, x_0, x_1, x_2, x_3, x_4, x_5] at *; omega)
      rw [h3 _ (by have := (mS_lt (show d < 6 by omega)).1; omega) hin, if_neg (fun q => e q.1)]
      exact h.2.1 x i c hx hi hc
  · have h9 := mi_lt' (c := 0) (by omega : d < 6) (Nat.lt_of_lt_of_le hk mx) (by rcases d4 hd with rfl | rfl | rfl | rfl <;> decide)
    rw [h3 _ (fun q => by have := (mS_lt (show d < 6 by omega)).2; omega) (by omega)]
    exact h.2.2 w hw
/-- the row i of several -/
def rwI (f : Nat → Int32) (i : Nat) : Nat → Int32 := fun k => f (657 * i + k)
def MR (S : St) (now was kept isk tb : Nat → Int32) (und gon lef tz : Int32) : Prop := RM now S.1 ∧ (∀ (i : Nat) (M : Od), S.2.1[i]? = some M → RM (rwI was i) M) ∧ und = iI S.2.1.length ∧ (∀ M, S.2.2.1.1 = some M → RM (rwI kept 0) M) ∧ (∀ M, S.2.2.1.2 = some M → RM (rwI kept 1) M) ∧ isk 0 = bI S.2.2.1.1.isSome ∧ isk 1 = bI S.2.2.1.2.isSome ∧ gon = iI (-1) ∧ lef = iI (-1) ∧ tz = iI S.2.2.2.1 ∧ ∀ i, i < S.2.2.2.1 → tb i = S.2.2.2.2 i
def isMd (S : St) (σ : List AE) : Prop := OKS S ∧ ∃ (now was kept isk ln sp ls ld tb rd : Nat → Int32) (und gon lef ak vn dy asd lma lim rea sts apr tz spo wro num nuA stl spe wan fou : Int32), σ = (wMd now was kept isk ln sp ls ld tb rd und gon lef ak vn dy asd lma lim rea sts apr tz spo wro num nuA stl spe wan fou) ∧ MR S now was kept isk tb und gon lef tz
theorem isMd.mk {S : St} {now was kept isk ln sp ls ld tb rd : Nat → Int32} {und gon lef ak vn dy asd lma lim rea sts apr tz spo wro num nuA stl spe wan fou : Int32} (h1 : OKS S) (h2 : MR S now was kept isk tb und gon lef tz) : isMd S (wMd now was kept isk ln sp ls ld tb rd und gon lef ak vn dy asd lma lim rea sts apr tz spo wro num nuA stl spe wan fou) := ⟨h1, _, _, _, _, _, _, _, _, _, _, _, _, _, _, _, _, _, _, _, _, _, _, _, _, _, _, _, _, _, _, _, rfl, h2⟩
def spMd (rk : Nat) (P : St → List Value → (Option Value → St → Prop) → Prop) : Sp := (rk, 0, 0, pMd, fun as σ K => ∃ S, isMd S σ ∧ P S as (fun r S' => ∀ σ', isMd S' σ' → K r (some σ')))
def m5 (rk : Nat) (F : St → Int → Int → Int → Int → Int → Int × St) : Sp := spMd rk (fun S as K => ∃ (a b c d e : Int), as = [.ref 0, .int (iI a), .int (iI b), .int (iI c), .int (iI d), .int (iI e)] ∧ ir a ∧ ir b ∧ ir c ∧ ir d ∧ ir e ∧ K (some (.int (iI (F S a b c d e).1))) (F S a b c d e).2)
def m4 (rk : Nat) (F : St → Int → Int → Int → Int → Int × St) : Sp := spMd rk (fun S as K => ∃ (a b c d : Int), as = [.ref 0, .int (iI a), .int (iI b), .int (iI c), .int (iI d)] ∧ ir a ∧ ir b ∧ ir c ∧ ir d ∧ K (some (.int (iI (F S a b c d).1))) (F S a b c d).2)
def m3 (rk : Nat) (F : St → Int → Int → Int → Int × St) : Sp := spMd rk (fun S as K => ∃ (a b c : Int), as = [.ref 0, .int (iI a), .int (iI b), .int (iI c)] ∧ ir a ∧ ir b ∧ ir c ∧ K (some (.int (iI (F S a b c).1))) (F S a b c).2)
def m2 (rk : Nat) (F : St → Int → Int → Int × St) : Sp := spMd rk (fun S as K => ∃ (a b : Int), as = [.ref 0, .int (iI a), .int (iI b)] ∧ ir a ∧ ir b ∧ K (some (.int (iI (F S a b).1))) (F S a b).2)
def m1 (rk : Nat) (F : St → Int → Int × St) : Sp := spMd rk (fun S as K => ∃ (a : Int), as = [.ref 0, .int (iI a)] ∧ ir a ∧ K (some (.int (iI (F S a).1))) (F S a).2)
def m0 (rk : Nat) (F : St → Int × St) : Sp := spMd rk (fun S as K => as = [.ref 0] ∧ K (some (.int (iI (F S).1))) (F S).2)
theorem MR.act {S : St} {M' : Od} {now was kept isk tb now' was' : Nat → Int32} {und gon lef tz : Int32} (h : MR S now was kept isk tb und gon lef tz) (h1 : RM now' M') (h2 : ∀ (i : Nat) (M : Od), (hisA S.2.1 S.1)[i]? = some M → RM (rwI was' i) M) : MR (act S M') now' was' kept isk tb (iI (hisA S.2.1 S.1).length) gon lef tz := ⟨h1, h2, rfl, h.2.2.2⟩
