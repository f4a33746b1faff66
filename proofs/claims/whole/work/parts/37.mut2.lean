theorem RS.del {f s t : Nat → Int32} {M : Od} (h : RS f s t M) {d k : Nat} (hd : d < 6) (hk : k < M.1 d) : RS (va_cpy f f (zi d k 0 + oW d) (zi d k 0) ((M.1 d - k - 1) * oW d)) (upd s d (iI ((M.1 d : Int) - 1))) t (oDel M d k) := by
  refine ⟨fun x hx => ?_, fun x i c hx hi hc => ?_, h.2.2⟩
  · show upd s d (iI ((M.1 d : Int) - 1)) x = iI ((if x = d then M.1 x - 1 else M.1 x : Nat) : Int) ∧ (if x = d then M.1 x - 1 else M.1 x) ≤ oX x
    have := h.1 x hx
    unfold upd
    by_cases e : x = d
    · subst e; rw [if_pos rfl, if_pos rfl]; exact ⟨by congr 1; omega, by omega⟩
    · rw [if_neg e, if_neg e]; exact this
  · replace hi : i < (if x = d then M.1 x - 1 else M.1 x) := hi
    show va_cpy f f (zi d k 0 + oW d) (zi d k 0) ((M.1 d - k - 1) * oW d) (zi x i c) = iI (if x = d ∧ k ≤ i then M.2.1 x (i + 1) c else M.2.1 x i c)
    have mx := h.max x hx
    have md := h.max d hd
    unfold va_cpy
    by_cases e : x = d
    · subst e
      rw [if_pos rfl] at hi
      by_cases e2 : k ≤ i
      · have hin : zi x k 0 ≤ zi x i c ∧ zi x i c < zi x k 0 + (M.1 x - k - 1) * oW x := by
          rcases d6 hx with rfl | rfl | rfl | rfl | rfl | rfl <;> simp only [zi, b_0, b_1, b_2, b_3, b_4, b_5, w_0, w_1, w_2, w_3, w_4, w_5, x_0, x_1, x_2, x_3, x_4, x_5] at * <;> refine ⟨?_, ?_⟩ <;> omega
        have hix : zi x k 0 + oW x + (zi x i c - zi x k 0) = zi x (i + 1) c := by
          rcases d6 hx with rfl | rfl | rfl | rfl | rfl | rfl <;> simp only [zi, b_0, b_1, b_2, b_3, b_4, b_5, w_0, w_1, w_2, w_3, w_4, w_5, x_0, x_1, x_2, x_3, x_4, x_5] at * <;> omega
        rw [if_pos hin, if_pos ⟨rfl, e2⟩, hix]
        exact h.2.1 x (i + 1) c hx (by omega) hc
      · have hin : ¬ (zi x k 0 ≤ zi x i c ∧ zi x i c < zi x k 0 + (M.1 x - k - 1) * oW x) := by
          rcases d6 hx with rfl | rfl | rfl | rfl | rfl | rfl <;> simp only [zi, b_0, b_1, b_2, b_3, b_4, b_5, w_0, w_1, w_2, w_3, w_4, w_5, x_0, x_1, x_2, x_3, x_4, x_5] at * <;> omega
        rw [if_neg hin, if_neg (fun q => e2 q.2)]
        exact h.2.1 x i c hx (by omega) hc
    · rw [if_neg e] at hi
      have hin : ¬ (zi d k 0 ≤ zi x i c ∧ zi x i c < zi d k 0 + (M.1 d - k - 1) * oW d) := by
        rcases d6 hx with rfl | rfl | rfl | rfl | rfl | rfl <;> rcases d6 hd with rfl | rfl | rfl | rfl | rfl | rfl <;> first | exact absurd rfl e | (simp only [zi, b_0, b_1, b_2, b_3, b_4, b_5, w_0, w_1, w_2, w_3, w_4, w_5, x_0, x_1, x_2, x_3, x_4, x_5] at *; omega)
      rw [if_neg hin, if_neg (fun q => e q.1)]
      exact h.2.1 x i c hx hi hc
def sp_removeRow : Sp := spM 1 (fun f s t as K => ∃ (M : Od) (d k : Nat), as = [.ref 0, .int (iI d), .int (iI k)] ∧ RS f s t M ∧ d < 6 ∧ k < M.1 d ∧ ∀ f' s', RS f' s' t (oDel M d k) → K none f' s' t)
theorem v_removeRow (l : Launch) : z_V l 56 sp_removeRow := by
  refine z_V.of (by decide +kernel) ?_
  rintro as σ K ⟨f, s, t, rfl, M, d, k, rfl, hR, hd, hk, hK⟩
  have hs := hR.size d hd
  have hm := hR.max40 d hd
  have mx := hR.max d hd
  have hw : oW d ≤ 7 := by
    have key : ∀ d, d < 6 → oW d ≤ 7 := by decide +kernel
    exact key d hd
  have hsum : zi d k 0 + oW d + (M.1 d - k - 1) * oW d ≤ 648 := by
    rcases d6 hd with rfl | rfl | rfl | rfl | rfl | rfl <;> simp only [zi, b_0, b_1, b_2, b_3, b_4, b_5, w_0, w_1, w_2, w_3, w_4, w_5, x_0, x_1, x_2, x_3, x_4, x_5] at * <;> omega
  have hmul : (M.1 d - k - 1) * oW d ≤ 648 := by omega
  refine AW.go (bs := b_State_removeRow) [] 90 t_State_removeRow ?_
  refine ⟨_, v_has l, by decide, f, s, t, rfl, M, d, (k : Int), rfl, hR, hd, ⟨by omega, by omega⟩, ?_⟩
  refine And.intro (fun h => ?_) (fun h => ?_)
  · refine And.intro (zN_in hd (by omega)) ?_
    refine And.intro (zN_in hd (by omega)) ?_
    refine And.intro (zN_in hd (by omega)) ?_
    have ew : nI ([4, 3, 5, 2, 4, 7].getD (iI (d : Int)).toNatClampNeg 0) = iI ((oW d : Nat) : Int) := z_tab _ (by omega)
    have eb : nI ([0, 96, 168, 288, 320, 368].getD (iI (d : Int)).toNatClampNeg 0) = iI ((oB d : Nat) : Int) := z_tab _ (by omega)
    have e1 : iI ((oB d : Nat) : Int) + iI (k : Int) * iI ((oW d : Nat) : Int) = iI ((zi d k 0 : Nat) : Int) := by
      rw [iI_mul, iI_add]; rfl
    have e2 : iI ((zi d k 0 : Nat) : Int) + iI ((oW d : Nat) : Int) = iI ((zi d k 0 + oW d : Nat) : Int) := by rw [iI_add]; rfl
    have e3 : (iI (M.1 d : Int) - iI (k : Int) - iI 1) * iI ((oW d : Nat) : Int) = iI (((M.1 d - k - 1) * oW d : Nat) : Int) := by
      rw [iI_sub, iI_sub, iI_mul]; congr 1; push_cast; rw [Int.ofNat_sub (by omega), Int.ofNat_sub (by omega)]; rfl
    show _ ∧ _ ∧ _
    rw [ew, eb, e1, e2, zN_cl (by omega : d < 2147483648), hs, zn_i 1]
    rw [show ((1 : Nat) : Int) = 1 from rfl, e3]
    refine ⟨?_, ?_, ?_, ?_, ?_, ?_⟩
    · rw [iI_0, iI_lt (by omega) (by omega) (by omega) (by omega)]; omega
    · rw [iI_0, iI_lt (by omega) (by omega) (by omega) (by omega)]; omega
    · rw [iI_0, iI_lt (by omega) (by omega) (by omega) (by omega)]; omega
    · rw [zN_cl (by omega), zN_cl (by omega)]; omega
    · rw [zN_cl (by omega), zN_cl (by omega)]; omega
    · rw [zN_cl (by omega), zN_cl (by omega), zN_cl (by omega)]
      refine And.intro (zN_in hd (by omega)) ?_
      refine And.intro (zN_in hd (by omega)) (Or.inr ?_)
      rw [zN_cl (by omega), hs, zn_i 1, iI_sub]
      exact hK _ _ (hR.del hd hk)
  · rw [zc_bne, decide_eq_true_eq] at h
    omega
theorem RS_new {f s t : Nat → Int32} (h1 : ∀ d, d < 6 → s d = iI 0) (h2 : ∀ w, w < 3 → t w = iI (([0, 1, 2].getD w 0 : Nat) : Int)) : RS f s t oNew :=
  ⟨fun d hd => ⟨h1 d hd, Nat.zero_le _⟩, fun d k c _ hk _ => absurd hk (Nat.not_lt_zero k), h2⟩
def sp_clear : Sp := spM 0 (fun f s t as K => as = [.ref 0] ∧ ∀ s' t', (∀ d, d < 6 → s' d = iI 0) → (∀ w, w < 3 → t' w = iI (([0, 1, 2].getD w 0 : Nat) : Int)) → K none f s' t')
theorem v_clear (l : Launch) : z_V l 48 sp_clear := by
  refine z_V.of (by decide +kernel) ?_
  rintro as σ K ⟨f, s, t, rfl, rfl, hK⟩
  have loop2 : ∀ (n k : Nat) (x : Int32) (s' t' : Nat → Int32), n = 3 - k → k ≤ 3 → x = iI (k : Int) → (∀ d, d < 6 → s' d = iI 0) → (∀ w, w < k → t' w = iI (([0, 1, 2].getD w 0 : Nat) : Int)) → AW l 48 0 0 0 4 none (fun r σ' => (σ' = wS f s t ∧ K r none) ∨ K r (some σ')) 23 [some (.ref 0), some (.int x)] [] (wS f s' t') 0 0 := by
    intro n
    induction n using Nat.strongRecOn with
    | ind n ih =>
      intro k x s' t' hn hk hx hs ht
      subst hx
      refine AW.go (bs := b_State_clear) [2, 23] 60 t_State_clear ?_
      refine And.intro (fun h => ?_) (fun h => ?_)
      · rw [zn_i, zc_ge (by omega) (by omega) (by omega) (by omega)] at h
        exact Or.inr (hK s' t' hs (fun w hw => ht w (by omega)))
      · rw [zn_i, zc_ge (by omega) (by omega) (by omega) (by omega)] at h
        refine And.intro (zN_in (by show k < 3; omega) (by omega)) ?_
        refine And.intro (zN_in (by show k < 3; omega) (by omega)) ?_
        refine ih _ (by omega) (k + 1) _ s' _ rfl (by omega) (zn_inc k) hs (fun w hw => ?_)
        rw [zN_cl (by omega), iI_nI]
        unfold upd
        by_cases e : w = k
        · rw [if_pos e, e]
        · rw [if_neg e]; exact ht w (by omega)
  have loop1 : ∀ (n k : Nat) (x : Int32) (s' : Nat → Int32), n = 6 - k → k ≤ 6 → x = iI (k : Int) → (∀ d, d < k → s' d = iI 0) → AW l 48 0 0 0 4 none (fun r σ' => (σ' = wS f s t ∧ K r none) ∨ K r (some σ')) 2 [some (.ref 0), some (.int x)] [] (wS f s' t) 0 0 := by
    intro n
    induction n using Nat.strongRecOn with
    | ind n ih =>
      intro k x s' hn hk hx hs
      subst hx
      refine AW.go (bs := b_State_clear) [2, 23] 60 t_State_clear ?_
      refine And.intro (fun h => ?_) (fun h => ?_)
      · rw [zn_i, zc_ge (by omega) (by omega) (by omega) (by omega)] at h
        exact loop2 3 0 _ s' t rfl (by omega) rfl (fun d hd => hs d (by omega)) (fun w hw => by omega)
      · rw [zn_i, zc_ge (by omega) (by omega) (by omega) (by omega)] at h
        refine And.intro (zN_in (by omega) (by omega)) ?_
        refine ih _ (by omega) (k + 1) _ _ rfl (by omega) (zn_inc k) (fun d hd => ?_)
        rw [zN_cl (by omega)]
        unfold upd
        by_cases e : d = k
        · rw [if_pos e]; rfl
        · rw [if_neg e]; exact hs d (by omega)
  refine AW.go (bs := b_State_clear) [2, 23] 60 t_State_clear ?_
  exact loop1 6 0 _ s rfl (by omega) rfl (fun d hd => by omega)
/-- two States side by side -/
def wS2 (f s t g u v : Nat → Int32) : List AE := [.inr (.inr (6, [.ref 1, .ref 2, .ref 3])), .inl (0, 648, f), .inl (0, 6, s), .inl (0, 3, t), .inr (.inr (6, [.ref 5, .ref 6, .ref 7])), .inl (0, 648, g), .inl (0, 6, u), .inl (0, 3, v)]
def pS2 : List (Nat × List Nat) := [(0, []), (0, [0]), (0, [1]), (0, [2]), (1, []), (1, [0]), (1, [1]), (1, [2])]
def sp_copyFrom : Sp := (1, 0, 0, pS2, fun as σ K => ∃ (f s t g u v : Nat → Int32) (M : Od), as = [.ref 0, .ref 4] ∧ σ = wS2 f s t g u v ∧ RS g u v M ∧ ∀ f' s' t', RS f' s' t' M → K none (some (wS2 f' s' t' g u v)))
theorem v_copyFrom (l : Launch) : z_V l 49 sp_copyFrom := by
  refine z_V.of (by decide +kernel) ?_
  rintro as σ K ⟨f, s, t, g, u, v, M, rfl, rfl, hR, hK⟩
  have loop : ∀ (n d : Nat) (x : Int32) (f' s' : Nat → Int32) (v3 : Option Value), n = 6 - d → d ≤ 6 → x = iI (d : Int) → (∀ x, x < d → s' x = u x) → (∀ x k c, x < d → k < M.1 x → c < oW x → f' (zi x k c) = g (zi x k c)) → AW l 49 1 0 0 8 none (fun r σ' => (σ' = wS2 f s t g u v ∧ K r none) ∨ K r (some σ')) 2 [some (.ref 0), some (.ref 4), some (.int x), v3] [] (wS2 f' s' t g u v) 0 0 := by
    intro n
    induction n using Nat.strongRecOn with
    | ind n ih =>
      intro d x f' s' v3 hn hd hx hs hf
      subst hx
      refine AW.go (bs := b_State_copyFrom) [2] 90 t_State_copyFrom ?_
      refine And.intro (fun h => ?_) (fun h => ?_)
      · rw [zn_i, zc_ge (by omega) (by omega) (by omega) (by omega)] at h
        refine ⟨by decide, by decide, by decide, by decide, by decide, Or.inr (hK _ _ _ ⟨fun x hx => ?_, fun x k c hx hk hc => ?_, fun w hw => ?_⟩)⟩
        · rw [hs x (by omega)]; exact hR.1 x hx
        · rw [hf x k c (by omega) hk hc]; exact hR.2.1 x k c hx hk hc
        · show va_cpy v t _ _ _ w = _
          rw [show (z_nn 0 0).toNatClampNeg = 0 from zn_cl (by omega), show (z_nn 3 0).toNatClampNeg = 3 from zn_cl (by omega)]
          unfold va_cpy
          rw [if_pos ⟨by omega, by omega⟩, show 0 + (w - 0) = w by omega]
          exact hR.2.2 w hw
      · rw [zn_i, zc_ge (by omega) (by omega) (by omega) (by omega)] at h
        have hd6 : d < 6 := by omega
        have hu := hR.size d hd6
        have hm := hR.max d hd6
        have hm4 := hR.max40 d hd6
        have hsum : oB d + M.1 d * oW d ≤ 648 := by
          rcases d6 hd6 with rfl | rfl | rfl | rfl | rfl | rfl <;> simp only [b_0, b_1, b_2, b_3, b_4, b_5, w_0, w_1, w_2, w_3, w_4, w_5, x_0, x_1, x_2, x_3, x_4, x_5] at * <;> omega
        have hmul : M.1 d * oW d ≤ 648 := by omega
        have hb : oB d ≤ 648 := by omega
        refine And.intro (zN_in hd6 (by omega)) ?_
        refine And.intro (zN_in hd6 (by omega)) ?_
        refine And.intro (zN_in hd6 (by omega)) ?_
        refine And.intro (zN_in hd6 (by omega)) ?_
        have ew : nI ([4, 3, 5, 2, 4, 7].getD (iI (d : Int)).toNatClampNeg 0) = iI ((oW d : Nat) : Int) := z_tab _ (by omega)
        have eb : nI ([0, 96, 168, 288, 320, 368].getD (iI (d : Int)).toNatClampNeg 0) = iI ((oB d : Nat) : Int) := z_tab _ (by omega)
        have e3 : iI (M.1 d : Int) * iI ((oW d : Nat) : Int) = iI ((M.1 d * oW d : Nat) : Int) := by rw [iI_mul]; rfl
        show _ ∧ _ ∧ _
        rw [ew, eb, zN_cl (by omega : d < 2147483648), hu, e3]
        refine ⟨?_, ?_, ?_, ?_, ?_, ?_⟩
        · rw [iI_0, iI_lt (by omega) (by omega) (by omega) (by omega)]; omega
        · rw [iI_0, iI_lt (by omega) (by omega) (by omega) (by omega)]; omega
        · rw [iI_0, iI_lt (by omega) (by omega) (by omega) (by omega)]; omega
        · rw [zN_cl (by omega), zN_cl (by omega)]; omega
        · rw [zN_cl (by omega), zN_cl (by omega)]; omega
        · rw [zN_cl (by omega), zN_cl (by omega)]
          refine And.intro (zN_in hd6 (by omega)) ?_
          refine And.intro (zN_in hd6 (by omega)) ?_
          refine ih _ (by omega) (d + 1) _ _ _ _ rfl (by omega) (zn_inc d) (fun x hx => ?_) (fun x k c hx hk hc => ?_)
          · rw [zN_cl (by omega)]
            unfold upd
            by_cases e : x = d
            · rw [if_pos e, e]
            · rw [if_neg e]; exact hs x (by omega)
          · show va_cpy g f' (oB d) (oB d) (M.1 d * oW d) (zi x k c) = _
            have mx := hR.max x (by omega)
            unfold va_cpy
            by_cases e : x = d
            · subst e
              rw [if_pos (by rcases d6 hd6 with rfl | rfl | rfl | rfl | rfl | rfl <;> simp only [zi, b_0, b_1, b_2, b_3, b_4, b_5, w_0, w_1, w_2, w_3, w_4, w_5, x_0, x_1, x_2, x_3, x_4, x_5] at * <;> refine ⟨?_, ?_⟩ <;> omega)]
              congr 1
              unfold zi
              omega
            · rw [if_neg (by rcases d6 hd6 with rfl | rfl | rfl | rfl | rfl | rfl <;> rcases d6 (show x < 6 by omega) with rfl | rfl | rfl | rfl | rfl | rfl <;> first | exact absurd rfl e | (simp only [zi, b_0, b_1, b_2, b_3, b_4, b_5, w_0, w_1, w_2, w_3, w_4, w_5, x_0, x_1, x_2, x_3, x_4, x_5] at *; omega))]
              exact hf x k c (by omega) hk hc
  refine AW.go (bs := b_State_copyFrom) [2] 90 t_State_copyFrom ?_
  exact loop 6 0 _ f s _ rfl (by omega) rfl (fun x hx => by omega) (fun x k c hx => by omega)
