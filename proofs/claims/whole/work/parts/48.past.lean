/-! what was before: a ring of ten states -/
def fU {α : Type} (F : Nat → α) (q : Nat) (x : α) : Nat → α := fun i => match Nat.beq i q with
  | true => x
  | false => F i
theorem fU_eq {α : Type} (F : Nat → α) (q : Nat) (x : α) : fU F q x q = x := by
  unfold fU; rw [show Nat.beq q q = true from Nat.beq_refl q]
theorem fU_ne {α : Type} (F : Nat → α) {q i : Nat} (x : α) (h : i ≠ q) : fU F q x i = F i := by
  unfold fU
  cases hb : Nat.beq i q with
  | false => rfl
  | true => exact absurd (Nat.eq_of_beq_eq_true hb) h
def wPS (F S T : Nat → Nat → Int32) (fi sz : Int32) (f s t : Nat → Int32) : List AE := [.inr (.inr (3, [.ref 1, .int fi, .int sz])), .inr (.inl [some 2, some 6, some 10, some 14, some 18, some 22, some 26, some 30, some 34, some 38]), .inr (.inr (6, [.ref 3, .ref 4, .ref 5])), .inl (0, 648, F 0), .inl (0, 6, S 0), .inl (0, 3, T 0), .inr (.inr (6, [.ref 7, .ref 8, .ref 9])), .inl (0, 648, F 1), .inl (0, 6, S 1), .inl (0, 3, T 1), .inr (.inr (6, [.ref 11, .ref 12, .ref 13])), .inl (0, 648, F 2), .inl (0, 6, S 2), .inl (0, 3, T 2), .inr (.inr (6, [.ref 15, .ref 16, .ref 17])), .inl (0, 648, F 3), .inl (0, 6, S 3), .inl (0, 3, T 3), .inr (.inr (6, [.ref 19, .ref 20, .ref 21])), .inl (0, 648, F 4), .inl (0, 6, S 4), .inl (0, 3, T 4), .inr (.inr (6, [.ref 23, .ref 24, .ref 25])), .inl (0, 648, F 5), .inl (0, 6, S 5), .inl (0, 3, T 5), .inr (.inr (6, [.ref 27, .ref 28, .ref 29])), .inl (0, 648, F 6), .inl (0, 6, S 6), .inl (0, 3, T 6), .inr (.inr (6, [.ref 31, .ref 32, .ref 33])), .inl (0, 648, F 7), .inl (0, 6, S 7), .inl (0, 3, T 7), .inr (.inr (6, [.ref 35, .ref 36, .ref 37])), .inl (0, 648, F 8), .inl (0, 6, S 8), .inl (0, 3, T 8), .inr (.inr (6, [.ref 39, .ref 40, .ref 41])), .inl (0, 648, F 9), .inl (0, 6, S 9), .inl (0, 3, T 9), .inr (.inr (6, [.ref 43, .ref 44, .ref 45])), .inl (0, 648, f), .inl (0, 6, s), .inl (0, 3, t)]
def pPS : List (Nat × List Nat) := [(0, []), (0, [0]), (0, [0, 0]), (0, [0, 0, 0]), (0, [0, 0, 1]), (0, [0, 0, 2]), (0, [0, 1]), (0, [0, 1, 0]), (0, [0, 1, 1]), (0, [0, 1, 2]), (0, [0, 2]), (0, [0, 2, 0]), (0, [0, 2, 1]), (0, [0, 2, 2]), (0, [0, 3]), (0, [0, 3, 0]), (0, [0, 3, 1]), (0, [0, 3, 2]), (0, [0, 4]), (0, [0, 4, 0]), (0, [0, 4, 1]), (0, [0, 4, 2]), (0, [0, 5]), (0, [0, 5, 0]), (0, [0, 5, 1]), (0, [0, 5, 2]), (0, [0, 6]), (0, [0, 6, 0]), (0, [0, 6, 1]), (0, [0, 6, 2]), (0, [0, 7]), (0, [0, 7, 0]), (0, [0, 7, 1]), (0, [0, 7, 2]), (0, [0, 8]), (0, [0, 8, 0]), (0, [0, 8, 1]), (0, [0, 8, 2]), (0, [0, 9]), (0, [0, 9, 0]), (0, [0, 9, 1]), (0, [0, 9, 2]), (1, []), (1, [0]), (1, [1]), (1, [2])]
def wP (F S T : Nat → Nat → Int32) (fi sz : Int32) : List AE := [.inr (.inr (3, [.ref 1, .int fi, .int sz])), .inr (.inl [some 2, some 6, some 10, some 14, some 18, some 22, some 26, some 30, some 34, some 38]), .inr (.inr (6, [.ref 3, .ref 4, .ref 5])), .inl (0, 648, F 0), .inl (0, 6, S 0), .inl (0, 3, T 0), .inr (.inr (6, [.ref 7, .ref 8, .ref 9])), .inl (0, 648, F 1), .inl (0, 6, S 1), .inl (0, 3, T 1), .inr (.inr (6, [.ref 11, .ref 12, .ref 13])), .inl (0, 648, F 2), .inl (0, 6, S 2), .inl (0, 3, T 2), .inr (.inr (6, [.ref 15, .ref 16, .ref 17])), .inl (0, 648, F 3), .inl (0, 6, S 3), .inl (0, 3, T 3), .inr (.inr (6, [.ref 19, .ref 20, .ref 21])), .inl (0, 648, F 4), .inl (0, 6, S 4), .inl (0, 3, T 4), .inr (.inr (6, [.ref 23, .ref 24, .ref 25])), .inl (0, 648, F 5), .inl (0, 6, S 5), .inl (0, 3, T 5), .inr (.inr (6, [.ref 27, .ref 28, .ref 29])), .inl (0, 648, F 6), .inl (0, 6, S 6), .inl (0, 3, T 6), .inr (.inr (6, [.ref 31, .ref 32, .ref 33])), .inl (0, 648, F 7), .inl (0, 6, S 7), .inl (0, 3, T 7), .inr (.inr (6, [.ref 35, .ref 36, .ref 37])), .inl (0, 648, F 8), .inl (0, 6, S 8), .inl (0, 3, T 8), .inr (.inr (6, [.ref 39, .ref 40, .ref 41])), .inl (0, 648, F 9), .inl (0, 6, S 9), .inl (0, 3, T 9)]
def pP : List (Nat × List Nat) := [(0, []), (0, [0]), (0, [0, 0]), (0, [0, 0, 0]), (0, [0, 0, 1]), (0, [0, 0, 2]), (0, [0, 1]), (0, [0, 1, 0]), (0, [0, 1, 1]), (0, [0, 1, 2]), (0, [0, 2]), (0, [0, 2, 0]), (0, [0, 2, 1]), (0, [0, 2, 2]), (0, [0, 3]), (0, [0, 3, 0]), (0, [0, 3, 1]), (0, [0, 3, 2]), (0, [0, 4]), (0, [0, 4, 0]), (0, [0, 4, 1]), (0, [0, 4, 2]), (0, [0, 5]), (0, [0, 5, 0]), (0, [0, 5, 1]), (0, [0, 5, 2]), (0, [0, 6]), (0, [0, 6, 0]), (0, [0, 6, 1]), (0, [0, 6, 2]), (0, [0, 7]), (0, [0, 7, 0]), (0, [0, 7, 1]), (0, [0, 7, 2]), (0, [0, 8]), (0, [0, 8, 0]), (0, [0, 8, 1]), (0, [0, 8, 2]), (0, [0, 9]), (0, [0, 9, 0]), (0, [0, 9, 1]), (0, [0, 9, 2])]
def PR (F S T : Nat → Nat → Int32) (fi : Nat) (H : List Od) : Prop := fi < 10 ∧ H.length ≤ 10 ∧ ∀ (i : Nat) (M : Od), H[i]? = some M → RS (F ((fi + i) % 10)) (S ((fi + i) % 10)) (T ((fi + i) % 10)) M
def hisA (H : List Od) (M : Od) : List Od := (if H.length = 10 then H.drop 1 else H) ++ [M]
theorem PR.push {F S T : Nat → Nat → Int32} {fi : Nat} {H : List Od} (h : PR F S T fi H) (hl : H.length < 10) {f s t : Nat → Int32} {M : Od} (hM : RS f s t M) : PR (fU F ((fi + H.length) % 10) f) (fU S ((fi + H.length) % 10) s) (fU T ((fi + H.length) % 10) t) fi (H ++ [M]) := by
  obtain ⟨h1, h2, h3⟩ := h
  refine ⟨h1, by simp; omega, fun i M' hi => ?_⟩
  by_cases e : i < H.length
  · rw [List.getElem?_append_left e] at hi
    rw [fU_ne _ _ (by omega), fU_ne _ _ (by omega), fU_ne _ _ (by omega)]
    exact h3 i M' hi
  · rw [List.getElem?_append_right (by omega)] at hi
    have hz : i - H.length < 1 := (List.getElem?_eq_some_iff.mp hi).1
    have : i = H.length := by omega
    subst this
    rw [Nat.sub_self] at hi
    cases hi
    rw [fU_eq, fU_eq, fU_eq]; exact hM
theorem PR.tail {F S T : Nat → Nat → Int32} {fi : Nat} {H : List Od} (h : PR F S T fi H) (hl : H.length = 10) : PR F S T ((fi + 1) % 10) (H.drop 1) := by
  obtain ⟨h1, h2, h3⟩ := h
  refine ⟨by omega, by simp; omega, fun i M' hi => ?_⟩
  rw [List.getElem?_drop] at hi
  have := h3 (1 + i) M' hi
  rw [show ((fi + 1) % 10 + i) % 10 = (fi + (1 + i)) % 10 by omega]
  exact this
def sp_remember : Sp := (2, 0, 0, pPS, fun as σ K => ∃ (F S T : Nat → Nat → Int32) (fi : Nat) (H : List Od) (f s t : Nat → Int32) (M : Od), as = [.ref 0, .ref 42] ∧ σ = wPS F S T (iI fi) (iI H.length) f s t ∧ RS f s t M ∧ PR F S T fi H ∧ ∀ F' S' T' fi', PR F' S' T' fi' (hisA H M) → K none (some (wPS F' S' T' (iI (fi' : Nat)) (iI (hisA H M).length) f s t)))
set_option maxRecDepth 8000 in
theorem v_remember (l : Launch) : z_V l 16 sp_remember := by
  refine z_V.ofP (by decide +kernel) ?_
  rintro as σ K Post ⟨F, S, T, fi, H, f, s, t, M, rfl, rfl, hM, hP, hK⟩ hP1 hP0
  have core : ∀ (fi : Nat) (H : List Od), PR F S T fi H → H.length < 10 → (∀ F' S' T' fi', PR F' S' T' fi' (H ++ [M]) → Post none (wPS F' S' T' (iI (fi' : Nat)) (iI (H ++ [M]).length) f s t)) →
      AW l 16 2 0 0 46 none Post 32 [some (.ref 0), some (.ref 42)] [] (wPS F S T (iI fi) (iI H.length) f s t) 0 0 := by
    intro fi H hP hl hK
    have hp1 := hP.1
    have ei : iI (fi : Int) + iI (H.length : Int) - (iI (fi : Int) + iI (H.length : Int)) / z_nn 10 0 * z_nn 10 0 = iI (((fi + H.length) % 10 : Nat) : Int) := by
      rw [zn_i, iI_add, iI_rem (by omega) (by omega) (by omega) (by omega)]; rfl
    have hpu : ∀ {f' s' t' : Nat → Int32}, RS f' s' t' M → _ := fun h => hP.push hl h
    have el : (H ++ [M]).length = H.length + 1 := by simp
    refine AW.go (bs := b_Past_remember) [] 60 t_Past_remember ?_
    refine And.intro (by decide) ?_
    show ∃ g : Nat, _
    rw [ei]
    generalize hq : (fi + H.length) % 10 = q at hpu ⊢
    have hq10 : q < 10 := by omega
    have : q = 0 ∨ q = 1 ∨ q = 2 ∨ q = 3 ∨ q = 4 ∨ q = 5 ∨ q = 6 ∨ q = 7 ∨ q = 8 ∨ q = 9 := by omega
    rcases this with rfl | rfl | rfl | rfl | rfl | rfl | rfl | rfl | rfl | rfl
    · refine ⟨2, zN_in (t := 0) (by decide) (by decide), rfl, ?_⟩
      refine ⟨_, v_copyFrom l, by decide, F 0, S 0, T 0, f, s, t, M, rfl, rfl, hM, fun f' s' t' h => ?_⟩
      have := hK _ _ _ fi (hpu h)
      rw [el, ← zn_inc] at this
      exact this
    · refine ⟨6, zN_in (t := 1) (by decide) (by decide), rfl, ?_⟩
      refine ⟨_, v_copyFrom l, by decide, F 1, S 1, T 1, f, s, t, M, rfl, rfl, hM, fun f' s' t' h => ?_⟩
      have := hK _ _ _ fi (hpu h)
      rw [el, ← zn_inc] at this
      exact this
    · refine ⟨10, zN_in (t := 2) (by decide) (by decide), rfl, ?_⟩
      refine ⟨_, v_copyFrom l, by decide, F 2, S 2, T 2, f, s, t, M, rfl, rfl, hM, fun f' s' t' h => ?_⟩
      have := hK _ _ _ fi (hpu h)
      rw [el, ← zn_inc] at this
      exact this
    · refine ⟨14, zN_in (t := 3) (by decide) (by decide), rfl, ?_⟩
      refine ⟨_, v_copyFrom l, by decide, F 3, S 3, T 3, f, s, t, M, rfl, rfl, hM, fun f' s' t' h => ?_⟩
      have := hK _ _ _ fi (hpu h)
      rw [el, ← zn_inc] at this
      exact this
    · refine ⟨18, zN_in (t := 4) (by decide) (by decide), rfl, ?_⟩
      refine ⟨_, v_copyFrom l, by decide, F 4, S 4, T 4, f, s, t, M, rfl, rfl, hM, fun f' s' t' h => ?_⟩
      have := hK _ _ _ fi (hpu h)
      rw [el, ← zn_inc] at this
      exact this
    · refine ⟨22, zN_in (t := 5) (by decide) (by decide), rfl, ?_⟩
      refine ⟨_, v_copyFrom l, by decide, F 5, S 5, T 5, f, s, t, M, rfl, rfl, hM, fun f' s' t' h => ?_⟩
      have := hK _ _ _ fi (hpu h)
      rw [el, ← zn_inc] at this
      exact this
    · refine ⟨26, zN_in (t := 6) (by decide) (by decide), rfl, ?_⟩
      refine ⟨_, v_copyFrom l, by decide, F 6, S 6, T 6, f, s, t, M, rfl, rfl, hM, fun f' s' t' h => ?_⟩
      have := hK _ _ _ fi (hpu h)
      rw [el, ← zn_inc] at this
      exact this
    · refine ⟨30, zN_in (t := 7) (by decide) (by decide), rfl, ?_⟩
      refine ⟨_, v_copyFrom l, by decide, F 7, S 7, T 7, f, s, t, M, rfl, rfl, hM, fun f' s' t' h => ?_⟩
      have := hK _ _ _ fi (hpu h)
      rw [el, ← zn_inc] at this
      exact this
    · refine ⟨34, zN_in (t := 8) (by decide) (by decide), rfl, ?_⟩
      refine ⟨_, v_copyFrom l, by decide, F 8, S 8, T 8, f, s, t, M, rfl, rfl, hM, fun f' s' t' h => ?_⟩
      have := hK _ _ _ fi (hpu h)
      rw [el, ← zn_inc] at this
      exact this
    · refine ⟨38, zN_in (t := 9) (by decide) (by decide), rfl, ?_⟩
      refine ⟨_, v_copyFrom l, by decide, F 9, S 9, T 9, f, s, t, M, rfl, rfl, hM, fun f' s' t' h => ?_⟩
      have := hK _ _ _ fi (hpu h)
      rw [el, ← zn_inc] at this
      exact this
  unfold hisA at hK
  have hp1 := hP.1
  have hp2 := hP.2.1
  refine AW.go (bs := b_Past_remember) [32] 60 t_Past_remember ?_
  refine And.intro (fun h => ?_) (fun h => ?_)
  · rw [zn_i, zc_ne (by omega) (by omega) (by omega) (by omega)] at h
    rw [if_neg (by omega)] at hK
    exact core fi H hP (by omega) (fun F' S' T' fi' h => hP1 _ _ (hK F' S' T' fi' h))
  · rw [zn_i, zc_ne (by omega) (by omega) (by omega) (by omega)] at h
    rw [if_pos (by omega)] at hK
    refine And.intro (by decide) ?_
    have e1 : iI (fi : Int) + z_nn 1 0 - (iI (fi : Int) + z_nn 1 0) / z_nn 10 0 * z_nn 10 0 = iI (((fi + 1) % 10 : Nat) : Int) := by
      rw [zn_i, zn_i, iI_add, iI_rem (by omega) (by omega) (by omega) (by omega)]; rfl
    have e2 : iI (H.length : Int) - z_nn 1 0 = iI ((H.drop 1).length : Int) := by
      rw [zn_i, iI_sub]; congr 1; simp; omega
    show AW _ _ _ _ _ _ _ _ _ _ _ _ _ _
    rw [e1, e2]
    exact core _ _ (hP.tail (by omega)) (by simp; omega) (fun F' S' T' fi' h => hP1 _ _ (hK F' S' T' fi' h))
def sp_takeBack : Sp := (2, 0, 0, pPS, fun as σ K => ∃ (F S T : Nat → Nat → Int32) (fi : Nat) (H : List Od) (f s t : Nat → Int32), as = [.ref 0, .ref 42] ∧ σ = wPS F S T (iI fi) (iI H.length) f s t ∧ PR F S T fi H ∧ (H = [] → K (some (.int (iI (-1)))) none) ∧
  ∀ H0 M, H = H0 ++ [M] → ∀ f' s' t', RS f' s' t' M → PR F S T fi H0 → K (some (.int (iI (H0.length : Nat)))) (some (wPS F S T (iI fi) (iI H0.length) f' s' t')))
set_option maxRecDepth 8000 in
theorem v_takeBack (l : Launch) : z_V l 17 sp_takeBack := by
  refine z_V.ofP (by decide +kernel) ?_
  rintro as σ K Post ⟨F, S, T, fi, H, f, s, t, rfl, rfl, hP, hK0, hK⟩ hP1 hP0
  obtain ⟨hp1, hp2, hp3⟩ := hP
  refine AW.go (bs := b_Past_takeBack) [] 60 t_Past_takeBack ?_
  refine And.intro (fun h => ?_) (fun h => ?_)
  · rw [zc_ne0 (by omega) (by omega)] at h
    rcases List.eq_nil_or_concat H with e | ⟨H0, M, e⟩
    · subst e; exact absurd rfl h
    · rw [List.concat_eq_append] at e
      subst e
      have el : (H0 ++ [M]).length = H0.length + 1 := by simp
      have hK2 := hK H0 M rfl
      have hM := hp3 H0.length M (by simp)
      have hP' : PR F S T fi H0 := ⟨hp1, by omega, fun i M' hi => hp3 i M' (by rw [List.getElem?_append_left (List.getElem?_eq_some_iff.mp hi).1]; exact hi)⟩
      have e2 : iI ((H0 ++ [M]).length : Int) - z_nn 1 0 = iI (H0.length : Int) := by
        rw [zn_i, iI_sub, el]; congr 1; omega
      have ei : iI (fi : Int) + iI (H0.length : Int) - (iI (fi : Int) + iI (H0.length : Int)) / z_nn 10 0 * z_nn 10 0 = iI (((fi + H0.length) % 10 : Nat) : Int) := by
        rw [zn_i, iI_add, iI_rem (by omega) (by omega) (by omega) (by omega)]; rfl
      refine And.intro (by decide) ?_
      show ∃ g : Nat, _
      rw [e2, ei]
      generalize hq : (fi + H0.length) % 10 = q at hM ⊢
      have hq10 : q < 10 := by omega
      have : q = 0 ∨ q = 1 ∨ q = 2 ∨ q = 3 ∨ q = 4 ∨ q = 5 ∨ q = 6 ∨ q = 7 ∨ q = 8 ∨ q = 9 := by omega
      rcases this with rfl | rfl | rfl | rfl | rfl | rfl | rfl | rfl | rfl | rfl
      · refine ⟨2, zN_in (t := 0) (by decide) (by decide), rfl, ?_⟩
        refine ⟨_, v_copyFrom l, by decide, f, s, t, F 0, S 0, T 0, M, rfl, rfl, hM, fun f' s' t' h => ?_⟩
        exact hP1 _ _ (hK2 f' s' t' h hP')
      · refine ⟨6, zN_in (t := 1) (by decide) (by decide), rfl, ?_⟩
        refine ⟨_, v_copyFrom l, by decide, f, s, t, F 1, S 1, T 1, M, rfl, rfl, hM, fun f' s' t' h => ?_⟩
        exact hP1 _ _ (hK2 f' s' t' h hP')
      · refine ⟨10, zN_in (t := 2) (by decide) (by decide), rfl, ?_⟩
        refine ⟨_, v_copyFrom l, by decide, f, s, t, F 2, S 2, T 2, M, rfl, rfl, hM, fun f' s' t' h => ?_⟩
        exact hP1 _ _ (hK2 f' s' t' h hP')
      · refine ⟨14, zN_in (t := 3) (by decide) (by decide), rfl, ?_⟩
        refine ⟨_, v_copyFrom l, by decide, f, s, t, F 3, S 3, T 3, M, rfl, rfl, hM, fun f' s' t' h => ?_⟩
        exact hP1 _ _ (hK2 f' s' t' h hP')
      · refine ⟨18, zN_in (t := 4) (by decide) (by decide), rfl, ?_⟩
        refine ⟨_, v_copyFrom l, by decide, f, s, t, F 4, S 4, T 4, M, rfl, rfl, hM, fun f' s' t' h => ?_⟩
        exact hP1 _ _ (hK2 f' s' t' h hP')
      · refine ⟨22, zN_in (t := 5) (by decide) (by decide), rfl, ?_⟩
        refine ⟨_, v_copyFrom l, by decide, f, s, t, F 5, S 5, T 5, M, rfl, rfl, hM, fun f' s' t' h => ?_⟩
        exact hP1 _ _ (hK2 f' s' t' h hP')
      · refine ⟨26, zN_in (t := 6) (by decide) (by decide), rfl, ?_⟩
        refine ⟨_, v_copyFrom l, by decide, f, s, t, F 6, S 6, T 6, M, rfl, rfl, hM, fun f' s' t' h => ?_⟩
        exact hP1 _ _ (hK2 f' s' t' h hP')
      · refine ⟨30, zN_in (t := 7) (by decide) (by decide), rfl, ?_⟩
        refine ⟨_, v_copyFrom l, by decide, f, s, t, F 7, S 7, T 7, M, rfl, rfl, hM, fun f' s' t' h => ?_⟩
        exact hP1 _ _ (hK2 f' s' t' h hP')
      · refine ⟨34, zN_in (t := 8) (by decide) (by decide), rfl, ?_⟩
        refine ⟨_, v_copyFrom l, by decide, f, s, t, F 8, S 8, T 8, M, rfl, rfl, hM, fun f' s' t' h => ?_⟩
        exact hP1 _ _ (hK2 f' s' t' h hP')
      · refine ⟨38, zN_in (t := 9) (by decide) (by decide), rfl, ?_⟩
        refine ⟨_, v_copyFrom l, by decide, f, s, t, F 9, S 9, T 9, M, rfl, rfl, hM, fun f' s' t' h => ?_⟩
        exact hP1 _ _ (hK2 f' s' t' h hP')
  · rw [zc_ne0 (by omega) (by omega)] at h
    have : H = [] := List.eq_nil_of_length_eq_zero (by omega)
    exact hP0 _ (hK0 this)
def sp_forget : Sp := (0, 0, 0, pP, fun as σ K => ∃ (F S T : Nat → Nat → Int32) (fi sz : Int32), as = [.ref 0] ∧ σ = wP F S T fi sz ∧ K none (some (wP F S T fi (iI 0))))
set_option maxRecDepth 8000 in
theorem v_forget (l : Launch) : z_V l 15 sp_forget := by
  refine z_V.ofP (by decide +kernel) ?_
  rintro as σ K Post ⟨F, S, T, fi, sz, rfl, rfl, hK⟩ hP1 hP0
  refine AW.go (bs := b_Past_forget) [] 60 t_Past_forget ?_
  exact hP1 _ _ hK
