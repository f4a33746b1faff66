/-! what stands beside the world at the law's start -/
def nf : List Cond := flatC (Jvm.Cond.and given_1 narrow_1)
set_option maxRecDepth 20000 in
theorem n_in {L : List Cond} (ps : List Nat) (h : L = ps.filterMap (fun i => nf[i]?)) : ∀ q ∈ L, q ∈ nf := by
  intro q hq
  rw [h] at hq
  obtain ⟨i, _, hi⟩ := List.mem_filterMap.mp hq
  exact List.mem_of_getElem? hi
def saT (i : Nat) : Term := .static (k_sg i).1 (k_sg i).2.1 (k_sg i).2.2
def saC (i : Nat) (xs : List Nat) : List Cond := .arrayOf (saT i) .int :: .eq (.length (saT i)) (.int (Int32.ofNat xs.length)) :: (List.range xs.length).map (fun j => .eq (.elem (saT i) (.int (Int32.ofNat j))) (.int (nI (xs.getD j 0))))
def saL : List Cond := (List.range 6).flatMap (fun i => saC i (k_SA.getD i []))
set_option maxRecDepth 20000 in
theorem sa_in : ∀ q ∈ saL, q ∈ nf := n_in [31, 32, 33, 34, 35, 36, 37, 38, 16, 17, 18, 19, 20, 21, 22, 23, 40, 41, 42, 43, 44, 45, 46, 47, 49, 50, 51, 52, 53, 5, 6, 7, 8, 9, 25, 26, 27, 28, 29] (by decide +kernel)
def rpS (i : Nat) : Nat × Nat := [(9, 384), (10, 415), (9, 371), (4, 119), (9, 375), (9, 369), (4, 121), (4, 109), (4, 111), (4, 113), (9, 380), (4, 107), (9, 377), (9, 373), (4, 131), (4, 115), (4, 117), (9, 382), (9, 378)].getD i (0, 0)
def stT (i : Nat) : Term := .string (k_cn (rpS i).1) (rpS i).2
def stV (i : Nat) : Term := .field (stT i) "java/lang/String" "value" "[B"
def stC (i : Nat) (xs : List Nat) : List Cond := .exactly (stT i) "java/lang/String" :: .eq (.field (stT i) "java/lang/String" "coder" "B") (.int 0) :: .arrayOf (stV i) .byte :: .eq (.length (stV i)) (.int (Int32.ofNat xs.length)) :: (List.range xs.length).map (fun j => .eq (.elem (stV i) (.int (Int32.ofNat j))) (.int (nI (xs.getD j 0))))
def stL : List Cond := (List.range 19).flatMap (fun i => stC i (k_str.getD i []))
set_option maxRecDepth 20000 in
theorem st_in : ∀ q ∈ stL, q ∈ nf := n_in [120, 121, 122, 123, 280, 281, 282, 283, 284, 285, 286, 287, 62, 63, 64, 65, 66, 67, 68, 69, 167, 168, 169, 170, 171, 79, 80, 81, 82, 83, 84, 85, 54, 55, 56, 57, 58, 59, 60, 61, 172, 173, 174, 175, 176, 132, 133, 134, 135, 136, 137, 138, 139, 140, 141, 142, 143, 144, 145, 146, 147, 148, 149, 150, 151, 152, 153, 104, 105, 106, 107, 108, 109, 110, 111, 124, 125, 126, 127, 128, 129, 130, 131, 86, 87, 88, 89, 90, 91, 92, 93, 70, 71, 72, 73, 74, 75, 76, 77, 78, 182, 183, 184, 185, 186, 187, 188, 154, 155, 156, 157, 158, 159, 160, 161, 162, 163, 164, 165, 166, 112, 113, 114, 115, 116, 117, 118, 119, 94, 95, 96, 97, 98, 99, 100, 101, 102, 103] (by decide +kernel)
def oth : List (Nat × Nat × Nat) := [(1, 63, 14), (4, 123, 0), (10, 322, 12), (10, 328, 14), (10, 337, 5), (10, 339, 2), (10, 341, 13), (10, 343, 4), (10, 355, 18), (10, 357, 10), (10, 359, 17)]
def othC (q : Nat × Nat × Nat) : Cond := .eq (stT q.2.2) (.string (k_cn q.1) q.2.1)
set_option maxRecDepth 20000 in
theorem oth_in : ∀ q ∈ oth.map othC, q ∈ nf := n_in [196, 181, 205, 213, 223, 232, 242, 250, 261, 270, 279] (by decide +kernel)
set_option maxRecDepth 20000 in
theorem lt_rep : ∀ q ∈ k_LT, ((q.1, q.2.1) = rpS q.2.2 ∨ q ∈ oth) ∧ q.2.2 < 19 := by decide +kernel
set_option maxRecDepth 20000 in
theorem n6_in : ∀ q ∈ ([.eq (.static (k_sg 6).1 (k_sg 6).2.1 (k_sg 6).2.2) (.int 1), .isRef (.static (k_sg 7).1 (k_sg 7).2.1 (k_sg 7).2.2)] : List Cond), q ∈ nf := n_in [10, 11] (by decide +kernel)
set_option maxRecDepth 20000 in
theorem lay_in : ∀ q ∈ (List.range 8).map (fun i => Cond.laysStatic (k_sg i).1 (k_sg i).2.1 (k_sg i).2.2), q ∈ lw_tbl := by
  have h := k_in (L := List.range 8) (f := fun i => Cond.laysStatic (k_sg i).1 (k_sg i).2.1 (k_sg i).2.2) [559, 518, 565, 677, 139, 548, 466, 482] (by decide +kernel)
  intro q hq
  obtain ⟨i, hi, rfl⟩ := List.mem_map.mp hq
  exact h i hi
set_option maxRecDepth 20000 in
theorem ini_sg : ∀ i, i < 8 → (k_sg i).1 = k_cn ([9, 9, 9, 9, 9, 9, 12, 15].getD i 0) ∧ [9, 9, 9, 9, 9, 9, 12, 15].getD i 0 < 18 := by decide +kernel
set_option maxRecDepth 20000 in
theorem eqR {args : Array Value} {s : State} {t u : Term} {a : Nat} (h : (Cond.eq t u).before args s = true) (ht : t.eval args s none [] s = some (.ref a)) : u.eval args s none [] s = some (.ref a) := by
  cases hv : u.eval args s none [] s with
  | none => simp [Cond.before, Cond.holds, Cond.value, ht, hv] at h
  | some w =>
    simp only [Cond.before, Cond.holds, Cond.value, hv, ht] at h
    cases w <;> simp_all
section AM
variable {args : Array Value} {s : State} {A : Nat → Prop}
set_option maxRecDepth 20000 in
theorem am_sa (hn : ∀ w ∈ nf, w.before args s = true) (ht : ∀ w ∈ lw_tbl, w.before args s = true) (hA : ∀ a : Nat, a < s.heap.size → ¬ A a) {i : Nat} {xs : List Nat} (hi : k_SA[i]? = some xs) : ∃ t, va_Z (k_sg i).1 (k_sg i).2.1 (k_sg i).2.2 (.ref t) A s s.heap ∧ va_T .int t xs.length (fun j => .int (nI (xs.getD j 0))) A s s.heap := by
  have hlt : i < 6 := (List.getElem?_eq_some_iff.mp hi).1
  have hg : k_SA.getD i [] = xs := by rw [List.getD_eq_getElem?_getD, hi]; rfl
  have hin : ∀ w ∈ saC i xs, w.before args s = true := fun w hw => hn w (sa_in w (List.mem_flatMap.mpr ⟨i, List.mem_range.mpr hlt, by rw [hg]; exact hw⟩))
  have hlen : xs.length < 2 ^ 31 := by
    have : ∀ i, i < 6 → (k_SA.getD i []).length < 2 ^ 31 := by decide +kernel
    have := this i hlt
    rw [hg] at this; exact this
  obtain ⟨t, h1, h2⟩ := va_Tof (f := fun j => .int (nI (xs.getD j 0))) (A := A) hlen (hin (.arrayOf (saT i) .int) (by simp [saC])) (va_eqt (hin (.eq (.length (saT i)) (.int (Int32.ofNat xs.length))) (by simp [saC]))) (fun j hj => va_eqt (hin (.eq (.elem (saT i) (.int (Int32.ofNat j))) (.int (nI (xs.getD j 0)))) (List.mem_cons_of_mem _ (List.mem_cons_of_mem _ (List.mem_map.mpr ⟨j, List.mem_range.mpr hj, rfl⟩))))) hA
  obtain ⟨e1, e2⟩ := ini_sg i (by omega)
  have hini := ht _ (k_ln _ (List.mem_range.mpr e2))
  unfold k_cN at hini
  rw [← e1] at hini
  exact ⟨t, va_Zof (ht _ (lay_in _ (List.mem_map.mpr ⟨i, List.mem_range.mpr (by omega), rfl⟩))) hini h1 hA, h2⟩
set_option maxRecDepth 20000 in
theorem am_st (hn : ∀ w ∈ nf, w.before args s = true) (hA : ∀ a : Nat, a < s.heap.size → ¬ A a) {i : Nat} {xs : List Nat} (hi : k_str[i]? = some xs) : ∃ q : Nat × Nat, (stT i).eval args s none [] s = some (.ref q.1) ∧ va_O "java/lang/String" q.1 A s s.heap ∧ va_OF "java/lang/String" "coder" "B" (.int 0) q.1 A s s.heap ∧ va_OF "java/lang/String" "value" "[B" (.ref q.2) q.1 A s s.heap ∧ va_T .byte q.2 xs.length (fun j => .int (nI (xs.getD j 0))) A s s.heap := by
  have hlt : i < 19 := (List.getElem?_eq_some_iff.mp hi).1
  have hg : k_str.getD i [] = xs := by rw [List.getD_eq_getElem?_getD, hi]; rfl
  have hin : ∀ w ∈ stC i xs, w.before args s = true := fun w hw => hn w (st_in w (List.mem_flatMap.mpr ⟨i, List.mem_range.mpr hlt, by rw [hg]; exact hw⟩))
  have hlen : xs.length < 2 ^ 31 := by
    have : ∀ i, i < 19 → (k_str.getD i []).length < 2 ^ 31 := by decide +kernel
    have := this i hlt
    rw [hg] at this; exact this
  obtain ⟨a, c, cA, kA, q1, q2, q3, q4, q5, q6, -⟩ := Cond.exactly_spec (args := args) (first := s) (o := none) (s := s) (idx := []) (t := stT i) (cls := "java/lang/String") (hin _ (by simp [stC]))
  obtain ⟨t, h1, h2⟩ := va_Tof (f := fun j => .int (nI (xs.getD j 0))) (A := A) hlen (hin (.arrayOf (stV i) .byte) (by simp [stC])) (va_eqt (hin (.eq (.length (stV i)) (.int (Int32.ofNat xs.length))) (by simp [stC]))) (fun j hj => va_eqt (hin (.eq (.elem (stV i) (.int (Int32.ofNat j))) (.int (nI (xs.getD j 0)))) (List.mem_cons_of_mem _ (List.mem_cons_of_mem _ (List.mem_cons_of_mem _ (List.mem_cons_of_mem _ (List.mem_map.mpr ⟨j, List.mem_range.mpr hj, rfl⟩))))))) hA
  exact ⟨(a, t), q1, ⟨cA, q3, q5, by rw [q6]; exact q2, hA a (Array.getElem?_eq_some_iff.mp q3).1⟩, vk_OFof q1 (va_eqt (hin (.eq (.field (stT i) "java/lang/String" "coder" "B") (.int 0)) (by simp [stC]))) hA, vk_OFof q1 h1 hA, h2⟩
end AM
/-- the places that are no cells of the world -/
def adS (b fm : Nat) (sa : Nat → Nat) (st : Nat → Nat × Nat) (k : Nat) : Nat := if k = 4000 then b else if k = 6000 then fm else if 5000 ≤ k then (st (k - 5000)).2 else if 3000 ≤ k then sa (k - 3000) else (st (k - 2000)).1
set_option maxRecDepth 20000 in
theorem adS_3 (b fm : Nat) (sa : Nat → Nat) (st : Nat → Nat × Nat) {i : Nat} (h : i < 6) : adS b fm sa st (3000 + i) = sa i := by
  unfold adS; rw [if_neg (by omega), if_neg (by omega), if_neg (by omega), if_pos (by omega), show 3000 + i - 3000 = i by omega]
set_option maxRecDepth 20000 in
theorem adS_2 (b fm : Nat) (sa : Nat → Nat) (st : Nat → Nat × Nat) {i : Nat} (h : i < 19) : adS b fm sa st (2000 + i) = (st i).1 := by
  unfold adS; rw [if_neg (by omega), if_neg (by omega), if_neg (by omega), if_neg (by omega), show 2000 + i - 2000 = i by omega]
set_option maxRecDepth 20000 in
theorem adS_5 (b fm : Nat) (sa : Nat → Nat) (st : Nat → Nat × Nat) {i : Nat} (h : i < 19) : adS b fm sa st (5000 + i) = (st i).2 := by
  unfold adS; rw [if_neg (by omega), if_neg (by omega), if_pos (by omega), show 5000 + i - 5000 = i by omega]
set_option maxRecDepth 20000 in
theorem amb_start {args : Array Value} {s : State} {A : Nat → Prop} {b L : Nat} {xs : Nat → Int32} (hn : ∀ w ∈ nf, w.before args s = true) (ht : ∀ w ∈ lw_tbl, w.before args s = true) (hA : ∀ a : Nat, a < s.heap.size → ¬ A a) (hX : va_X b L xs s s.heap) (hb : b < s.heap.size) : ∃ ad : Nat → Nat, ad 4000 = b ∧ z_Amb (some (L, xs)) ad A s s.heap := by
  have h1 : ∀ i : Nat, ∃ t : Nat, ∀ xs, k_SA[i]? = some xs → va_Z (k_sg i).1 (k_sg i).2.1 (k_sg i).2.2 (.ref t) A s s.heap ∧ va_T .int t xs.length (fun j => .int (nI (xs.getD j 0))) A s s.heap := by
    intro i
    cases hi : k_SA[i]? with
    | none => exact ⟨0, fun xs h => by cases h⟩
    | some ys =>
      obtain ⟨t, h⟩ := am_sa hn ht hA hi
      exact ⟨t, fun xs e => by cases e; exact h⟩
  have h2 : ∀ i : Nat, ∃ q : Nat × Nat, ∀ xs, k_str[i]? = some xs → (stT i).eval args s none [] s = some (.ref q.1) ∧ va_O "java/lang/String" q.1 A s s.heap ∧ va_OF "java/lang/String" "coder" "B" (.int 0) q.1 A s s.heap ∧ va_OF "java/lang/String" "value" "[B" (.ref q.2) q.1 A s s.heap ∧ va_T .byte q.2 xs.length (fun j => .int (nI (xs.getD j 0))) A s s.heap := by
    intro i
    cases hi : k_str[i]? with
    | none => exact ⟨(0, 0), fun xs h => by cases h⟩
    | some ys =>
      obtain ⟨t, h⟩ := am_st hn hA hi
      exact ⟨t, fun xs e => by cases e; exact h⟩
  obtain ⟨sa, hsa⟩ := Classical.axiomOfChoice h1
  obtain ⟨st, hst⟩ := Classical.axiomOfChoice h2
  have z : ∀ i, i < 8 → (Cond.laysStatic (k_sg i).1 (k_sg i).2.1 (k_sg i).2.2).before args s = true ∧ (Cond.initialized (k_sg i).1).before args s = true := by
    intro i hi
    obtain ⟨e1, e2⟩ := ini_sg i hi
    have hini := ht _ (k_ln _ (List.mem_range.mpr e2))
    unfold k_cN at hini
    rw [← e1] at hini
    exact ⟨ht _ (lay_in _ (List.mem_map.mpr ⟨i, List.mem_range.mpr hi, rfl⟩)), hini⟩
  have h6 := va_Zof (z 6 (by omega)).1 (z 6 (by omega)).2 (va_eqi (hn _ (n6_in _ (List.mem_cons_self)))) hA
  have h7 := va_Zqof (z 7 (by omega)).1 (z 7 (by omega)).2 (hn _ (n6_in _ (List.mem_cons_of_mem _ List.mem_cons_self))) hA
  obtain ⟨fm, hfm⟩ : ∃ fm : Nat, va_Z (k_sg 7).1 (k_sg 7).2.1 (k_sg 7).2.2 .null A s s.heap ∨ va_Z (k_sg 7).1 (k_sg 7).2.1 (k_sg 7).2.2 (.ref fm) A s s.heap := by
    rcases h7 with h | ⟨t, h⟩
    · exact ⟨0, Or.inl h⟩
    · exact ⟨t, Or.inr h⟩
  refine ⟨adS b fm sa st, rfl, fun i xs hi => ?_, h6, hfm, fun i xs hi => ?_, fun q hq => ?_, fun q hq => va_tabs rfl rfl (ht _ (k_lmn q hq)), fun q hq => va_tabs rfl rfl (ht _ (k_lsn q hq)), va_AO.of (ht _ (k_lxx 12 (by decide))), fun q hq => ?_⟩
  · rw [adS_3 b fm sa st (List.getElem?_eq_some_iff.mp hi).1]
    exact hsa i xs hi
  · have hi19 : i < 19 := (List.getElem?_eq_some_iff.mp hi).1
    rw [adS_2 b fm sa st hi19, adS_5 b fm sa st hi19]
    exact (hst i xs hi).2
  · obtain ⟨hrep, h19⟩ := lt_rep q hq
    rw [adS_2 b fm sa st h19]
    have hev := (hst q.2.2 _ (List.getElem?_eq_getElem (show q.2.2 < k_str.length from h19))).1
    have hev2 : (Term.string (k_cn q.1) q.2.1).eval args s none [] s = some (.ref (st q.2.2).1) := by
      rcases hrep with e | e
      · unfold stT at hev
        rw [← e] at hev
        exact hev
      · exact eqR (hn _ (oth_in _ (List.mem_map.mpr ⟨q, e, rfl⟩))) hev
    exact vk_R.of (ht _ (k_lt q hq)) hev2
  · cases hq
    exact ⟨hX, hb, hA b hb⟩
