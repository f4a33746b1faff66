/-! the numbers stay as the document has them -/
def rowOK (P d k : Nat) (r : Nat → Int) : Prop := match d with
  | 0 => 0 ≤ r 0 ∧ r 0 < P ∧ 0 ≤ r 1 ∧ r 1 < 16 ∧ 0 ≤ r 2 ∧ r 2 ≤ r 3 ∧ r 3 ≤ 999
  | 1 => 0 ≤ r 0 ∧ r 0 < 16 ∧ 0 ≤ r 1 ∧ r 1 ≤ r 2 ∧ r 2 ≤ 999
  | 2 => 0 ≤ r 0 ∧ r 0 < 16 ∧ 0 ≤ r 1 ∧ r 1 < 16 ∧ r 0 ≠ r 1 ∧ 0 ≤ r 2 ∧ r 2 ≤ r 3 ∧ r 3 ≤ 999 ∧ 0 ≤ r 4 ∧ r 4 ≤ 9999
  | 3 => 0 ≤ r 0 ∧ r 0 < 16 ∧ 0 ≤ r 1 ∧ r 1 < 10
  | 4 => (r 0 = -2 ∨ (0 ≤ r 0 ∧ r 0 < k)) ∧ ∀ c, 1 ≤ c → c < 4 → 0 ≤ r c ∧ r c ≤ 9999
  | _ => 0 ≤ r 0 ∧ r 0 < 16 ∧ 0 ≤ r 1 ∧ r 1 < P ∧ 0 ≤ r 2 ∧ r 2 < 10 ∧ 0 ≤ r 3 ∧ r 3 < 3 ∧ 1 ≤ r 4 ∧ r 4 ≤ 9999 ∧ 0 ≤ r 5 ∧ r 5 ≤ 999 ∧ (r 6 = -2 ∨ (0 ≤ r 6 ∧ r 6 ≤ 999))
theorem OKM_iff (M : Od) : OKM M ↔ (∀ d k, d < 6 → k < M.1 d → rowOK (M.1 4) d k (M.2.1 d k)) ∧ M.2.2 0 ≤ 99 ∧ M.2.2 1 ≤ 9 ∧ M.2.2 2 ≤ 30 ∧ ∀ d, d < 6 → M.1 d ≤ oX d := by
  constructor
  · rintro ⟨h0, h1, h2, h3, h4, h5, h6, h7, h8, h9⟩
    refine ⟨fun d k hd hk => ?_, h6, h7, h8, h9⟩
    rcases d6 hd with rfl | rfl | rfl | rfl | rfl | rfl
    · exact h0 k hk
    · exact h1 k hk
    · exact h2 k hk
    · exact h3 k hk
    · exact h4 k hk
    · exact h5 k hk
  · rintro ⟨h, h6, h7, h8, h9⟩
    exact ⟨fun k hk => h 0 k (by omega) hk, fun k hk => h 1 k (by omega) hk, fun k hk => h 2 k (by omega) hk, fun k hk => h 3 k (by omega) hk, fun k hk => h 4 k (by omega) hk, fun k hk => h 5 k (by omega) hk, h6, h7, h8, h9⟩
theorem rowOK.mono {P P' d k : Nat} {r : Nat → Int} (hd : d < 6) (h : rowOK P d k r) (hp : P ≤ P') : rowOK P' d k r := by
  rcases d6 hd with rfl | rfl | rfl | rfl | rfl | rfl <;> simp only [rowOK] at h ⊢ <;> first | omega | exact h
theorem rowOK.shift {P d k k' : Nat} {r : Nat → Int} (hd : d < 6) (h4 : d ≠ 4) (h : rowOK P d k r) : rowOK P d k' r := by
  rcases d6 hd with rfl | rfl | rfl | rfl | rfl | rfl <;> first | exact h | exact absurd rfl h4
theorem rowOK.cong {P d k : Nat} {r r' : Nat → Int} (hd : d < 6) (h : rowOK P d k r) (e : ∀ c, c < oW d → r' c = r c) : rowOK P d k r' := by
  rcases d6 hd with rfl | rfl | rfl | rfl | rfl | rfl <;> simp only [w_0, w_1, w_2, w_3, w_4, w_5] at e <;> simp only [rowOK] at h ⊢
  · rw [e 0 (by omega), e 1 (by omega), e 2 (by omega), e 3 (by omega)]; exact h
  · rw [e 0 (by omega), e 1 (by omega), e 2 (by omega)]; exact h
  · rw [e 0 (by omega), e 1 (by omega), e 2 (by omega), e 3 (by omega), e 4 (by omega)]; exact h
  · rw [e 0 (by omega), e 1 (by omega)]; exact h
  · rw [e 0 (by omega)]; exact ⟨h.1, fun c h1 h2 => by rw [e c h2]; exact h.2 c h1 h2⟩
  · rw [e 0 (by omega), e 1 (by omega), e 2 (by omega), e 3 (by omega), e 4 (by omega), e 5 (by omega), e 6 (by omega)]; exact h
theorem oAdd_ok {M : Od} (hO : OKM M) {d : Nat} (hd : d < 6) (hn : M.1 d < oX d) {row : Nat → Int} (hr : rowOK (M.1 4) d (M.1 d) row) : OKM (oAdd M d row) := by
  rw [OKM_iff] at hO ⊢
  obtain ⟨h, h6, h7, h8, h9⟩ := hO
  have hP : M.1 4 ≤ (oAdd M d row).1 4 := by
    show M.1 4 ≤ if 4 = d then M.1 4 + 1 else M.1 4
    split <;> omega
  refine ⟨fun x k hx hk => ?_, h6, h7, h8, fun x hx => ?_⟩
  · replace hk : k < (if x = d then M.1 x + 1 else M.1 x) := hk
    by_cases e : x = d ∧ k = M.1 d
    · obtain ⟨rfl, rfl⟩ := e
      have e2 : (oAdd M x row).2.1 x (M.1 x) = row := by
        funext c
        show (if x = x ∧ M.1 x = M.1 x then row c else _) = _
        rw [if_pos ⟨rfl, rfl⟩]
      rw [e2]
      exact hr.mono hd hP
    · have hk' : k < M.1 x := by
        by_cases e1 : x = d
        · rw [if_pos e1] at hk
          subst e1
          have : ¬ k = M.1 x := fun q => e ⟨rfl, q⟩
          omega
        · rw [if_neg e1] at hk; exact hk
      have e2 : (oAdd M d row).2.1 x k = M.2.1 x k := by
        funext c
        show (if x = d ∧ k = M.1 d then row c else M.2.1 x k c) = _
        rw [if_neg e]
      rw [e2]
      exact (h x k hx hk').mono hx hP
  · show (if x = d then M.1 x + 1 else M.1 x) ≤ oX x
    have := h9 x hx
    split
    · next e => subst e; omega
    · exact this
theorem oDel_ok {M : Od} (hO : OKM M) {d k : Nat} (hd : d < 4) (hk : k < M.1 d) : OKM (oDel M d k) := by
  rw [OKM_iff] at hO ⊢
  obtain ⟨h, h6, h7, h8, h9⟩ := hO
  have hP : (oDel M d k).1 4 = M.1 4 := by
    show (if 4 = d then M.1 4 - 1 else M.1 4) = M.1 4
    rw [if_neg (by omega)]
  rw [hP]
  refine ⟨fun x i hx hi => ?_, h6, h7, h8, fun x hx => ?_⟩
  · replace hi : i < (if x = d then M.1 x - 1 else M.1 x) := hi
    by_cases e : x = d ∧ k ≤ i
    · have e2 : (oDel M d k).2.1 x i = M.2.1 x (i + 1) := by
        funext c
        show (if x = d ∧ k ≤ i then M.2.1 x (i + 1) c else M.2.1 x i c) = _
        rw [if_pos e]
      rw [e2]
      rw [if_pos e.1] at hi
      exact (h x (i + 1) hx (by omega)).shift hx (by omega)
    · have e2 : (oDel M d k).2.1 x i = M.2.1 x i := by
        funext c
        show (if x = d ∧ k ≤ i then M.2.1 x (i + 1) c else M.2.1 x i c) = _
        rw [if_neg e]
      rw [e2]
      exact h x i hx (by split at hi <;> omega)
  · show (if x = d then M.1 x - 1 else M.1 x) ≤ oX x
    have := h9 x hx
    split <;> omega
theorem oPut_ok {M : Od} (hO : OKM M) {d k c : Nat} {v : Int} (hr : rowOK (M.1 4) d k (fun y => if y = c then v else M.2.1 d k y)) : OKM (oPut M d k c v) := by
  rw [OKM_iff] at hO ⊢
  obtain ⟨h, h6, h7, h8, h9⟩ := hO
  refine ⟨fun x i hx hi => ?_, h6, h7, h8, h9⟩
  by_cases e : x = d ∧ i = k
  · obtain ⟨rfl, rfl⟩ := e
    have e2 : (oPut M x i c v).2.1 x i = fun y => if y = c then v else M.2.1 x i y := by
      funext y
      show (if x = x ∧ i = i ∧ y = c then v else M.2.1 x i y) = _
      by_cases q : y = c
      · rw [if_pos ⟨rfl, rfl, q⟩, if_pos q]
      · rw [if_neg (fun z => q z.2.2), if_neg q]
    rw [e2]
    exact hr
  · have e2 : (oPut M d k c v).2.1 x i = M.2.1 x i := by
      funext y
      show (if x = d ∧ i = k ∧ y = c then v else M.2.1 x i y) = _
      rw [if_neg (fun z => e ⟨z.1, z.2.1⟩)]
    rw [e2]
    exact h x i hx hi
theorem oSet_ok {M : Od} (hO : OKM M) {w v : Nat} (hv : (w = 0 → v ≤ 99) ∧ (w = 1 → v ≤ 9) ∧ (w = 2 → v ≤ 30)) : OKM (oSet M w v) := by
  rw [OKM_iff] at hO ⊢
  obtain ⟨h, h6, h7, h8, h9⟩ := hO
  refine ⟨h, ?_, ?_, ?_, h9⟩
  · show (if 0 = w then v else M.2.2 0) ≤ 99
    split
    · next e => exact hv.1 e.symm
    · exact h6
  · show (if 1 = w then v else M.2.2 1) ≤ 9
    split
    · next e => exact hv.2.1 e.symm
    · exact h7
  · show (if 2 = w then v else M.2.2 2) ≤ 30
    split
    · next e => exact hv.2.2 e.symm
    · exact h8
theorem oNew_ok : OKM oNew := by
  rw [OKM_iff]
  exact ⟨fun d k _ hk => absurd hk (Nat.not_lt_zero k), by decide, by decide, by decide, fun d _ => Nat.zero_le _⟩
/-- an act: the order before it is kept -/
def act (S : St) (M : Od) : St := (M, hisA S.2.1 S.1, S.2.2)
theorem hisA_len {H : List Od} (h : H.length ≤ 10) (M : Od) : (hisA H M).length ≤ 10 := by
  unfold hisA
  split <;> simp <;> omega
theorem act_ok {S : St} (h : OKS S) {M : Od} (hM : OKM M) : OKS (act S M) := by
  obtain ⟨h1, h2, h3, h4⟩ := h
  refine ⟨hM, fun M' hM' => ?_, hisA_len h3 _, h4⟩
  replace hM' : M' ∈ hisA S.2.1 S.1 := hM'
  unfold hisA at hM'
  rw [List.mem_append, List.mem_singleton] at hM'
  rcases hM' with q | q
  · split at q
    · exact h2 M' (List.mem_of_mem_drop q)
    · exact h2 M' q
  · rw [q]; exact h1
