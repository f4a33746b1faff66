/-! State's methods that change it -/
def spM (rk : Nat) (P : (Nat → Int32) → (Nat → Int32) → (Nat → Int32) → List Value → (Option Value → (Nat → Int32) → (Nat → Int32) → (Nat → Int32) → Prop) → Prop) : Sp := (rk, 0, 0, pS, fun as σ K => ∃ f s t, σ = wS f s t ∧ P f s t as (fun r f s t => K r (some (wS f s t))))
theorem b_0 : oB 0 = 0 := rfl
theorem b_1 : oB 1 = 96 := rfl
theorem b_2 : oB 2 = 168 := rfl
theorem b_3 : oB 3 = 288 := rfl
theorem b_4 : oB 4 = 320 := rfl
theorem b_5 : oB 5 = 368 := rfl
theorem w_0 : oW 0 = 4 := rfl
theorem w_1 : oW 1 = 3 := rfl
theorem w_2 : oW 2 = 5 := rfl
theorem w_3 : oW 3 = 2 := rfl
theorem w_4 : oW 4 = 4 := rfl
theorem w_5 : oW 5 = 7 := rfl
theorem x_0 : oX 0 = 24 := rfl
theorem x_1 : oX 1 = 24 := rfl
theorem x_2 : oX 2 = 24 := rfl
theorem x_3 : oX 3 = 16 := rfl
theorem x_4 : oX 4 = 12 := rfl
theorem x_5 : oX 5 = 40 := rfl
theorem d6 {d : Nat} (h : d < 6) : d = 0 ∨ d = 1 ∨ d = 2 ∨ d = 3 ∨ d = 4 ∨ d = 5 := by omega
theorem zi_inj {d k c d' k' c' : Nat} (hd : d < 6) (hd' : d' < 6) (hk : k < oX d) (hk' : k' < oX d') (hc : c < oW d) (hc' : c' < oW d') (h : zi d k c = zi d' k' c') : d = d' ∧ k = k' ∧ c = c' := by
  rcases d6 hd with rfl | rfl | rfl | rfl | rfl | rfl <;> rcases d6 hd' with rfl | rfl | rfl | rfl | rfl | rfl <;> simp only [zi, b_0, b_1, b_2, b_3, b_4, b_5, w_0, w_1, w_2, w_3, w_4, w_5, x_0, x_1, x_2, x_3, x_4, x_5] at * <;> refine ⟨?_, ?_, ?_⟩ <;> first | trivial | omega
theorem zi_lt' {d k c : Nat} (hd : d < 6) (hk : k < oX d) (hc : c < oW d) : zi d k c < 648 := by
  rcases d6 hd with rfl | rfl | rfl | rfl | rfl | rfl <;> simp only [zi, b_0, b_1, b_2, b_3, b_4, b_5, w_0, w_1, w_2, w_3, w_4, w_5, x_0, x_1, x_2, x_3, x_4, x_5] at * <;> omega
def sp_put : Sp := spM 0 (fun f s t as K => ∃ (d k c : Nat) (v : Int32), as = [.ref 0, .int (iI d), .int (iI k), .int (iI c), .int v] ∧ d < 6 ∧ k < oX d ∧ c < oW d ∧ K none (upd f (zi d k c) v) s t)
theorem v_put (l : Launch) : z_V l 53 sp_put := by
  refine z_V.of (by decide +kernel) ?_
  rintro as σ K ⟨f, s, t, rfl, d, k, c, v, rfl, hd, hk, hc, hK⟩
  have hz := zi_lt' hd hk hc
  refine AW.go (bs := b_State_put) [] 50 t_State_put ?_
  refine And.intro (zN_in hd (by omega)) ?_
  refine And.intro (zN_in hd (by omega)) ?_
  have e2 : nI ([0, 96, 168, 288, 320, 368].getD (iI (d : Int)).toNatClampNeg 0) + iI (k : Int) * nI ([4, 3, 5, 2, 4, 7].getD (iI (d : Int)).toNatClampNeg 0) + iI (c : Int) = iI ((zi d k c : Nat) : Int) := by
    rw [z_tab _ (by omega), z_tab _ (by omega)]; exact zi_eq d k c
  show _ ∧ _
  rw [e2]
  refine And.intro (zN_in hz (by omega)) (Or.inr ?_)
  rw [zN_cl (by omega)]
  exact hK
/-- a row behind the others -/
def oAdd (M : Od) (d : Nat) (row : Nat → Int) : Od := (fun x => if x = d then M.1 x + 1 else M.1 x, fun x k c => if x = d ∧ k = M.1 d then row c else M.2.1 x k c, M.2.2)
/-- the row k goes -/
def oDel (M : Od) (d k : Nat) : Od := (fun x => if x = d then M.1 x - 1 else M.1 x, fun x i c => if x = d ∧ k ≤ i then M.2.1 x (i + 1) c else M.2.1 x i c, M.2.2)
/-- one cell -/
def oPut (M : Od) (d k c : Nat) (v : Int) : Od := (M.1, fun x i y => if x = d ∧ i = k ∧ y = c then v else M.2.1 x i y, M.2.2)
def oSet (M : Od) (w v : Nat) : Od := (M.1, M.2.1, fun x => if x = w then v else M.2.2 x)
def oNew : Od := (fun _ => 0, fun _ _ _ => 0, fun w => [0, 1, 2].getD w 0)
theorem RS.put {f s t : Nat → Int32} {M : Od} (h : RS f s t M) {d k c : Nat} (hd : d < 6) (hk : k < M.1 d) (hc : c < oW d) (v : Int) : RS (upd f (zi d k c) (iI v)) s t (oPut M d k c v) := by
  refine ⟨h.1, fun d' k' c' h1 h2 h3 => ?_, h.2.2⟩
  show upd f (zi d k c) (iI v) (zi d' k' c') = iI (if d' = d ∧ k' = k ∧ c' = c then v else M.2.1 d' k' c')
  unfold upd
  by_cases e : zi d' k' c' = zi d k c
  · obtain ⟨e1, e2, e3⟩ := zi_inj h1 hd (Nat.lt_of_lt_of_le h2 (h.max d' h1)) (Nat.lt_of_lt_of_le hk (h.max d hd)) h3 hc e
    rw [if_pos e, if_pos ⟨e1, e2, e3⟩]
  · rw [if_neg e, if_neg (fun q => e (by rw [q.1, q.2.1, q.2.2]))]
    exact h.2.1 d' k' c' h1 h2 h3
def rw5 (a b c d e : Int32) (i : Nat) : Int32 := match i with
  | 0 => a
  | 1 => b
  | 2 => c
  | 3 => d
  | _ => e
def sp_addRow : Sp := spM 1 (fun f s t as K => ∃ (M : Od) (d : Nat) (a b c x e : Int32), as = [.ref 0, .int (iI d), .int a, .int b, .int c, .int x, .int e] ∧ RS f s t M ∧ d < 6 ∧ M.1 d < oX d ∧
  ∀ f', (∀ i, i < 5 → i < oW d → f' (zi d (M.1 d) i) = rw5 a b c x e i) → (∀ y, (∀ i, i < 5 → i < oW d → y ≠ zi d (M.1 d) i) → f' y = f y) → K (some (.int (iI (M.1 d)))) f' (upd s d (iI ((M.1 d : Int) + 1))) t)
theorem v_addRow (l : Launch) : z_V l 54 sp_addRow := by
  refine z_V.of (by decide +kernel) ?_
  rintro as σ K ⟨f, s, t, rfl, M, d, a, b, c, x, e, rfl, hR, hd, hn, hK⟩
  have hs := hR.size d hd
  have hm := hR.max40 d hd
  have hw : 2 ≤ oW d ∧ oW d ≤ 7 := by
    have key : ∀ d, d < 6 → 2 ≤ oW d ∧ oW d ≤ 7 := by decide +kernel
    exact key d hd
  have inj : ∀ {i i' : Nat}, i < oW d → i' < oW d → zi d (M.1 d) i = zi d (M.1 d) i' → i = i' := fun h1 h2 h3 => (zi_inj hd hd hn hn h1 h2 h3).2.2
  have ne : ∀ {i i' : Nat}, i < oW d → i' < oW d → i ≠ i' → ¬ zi d (M.1 d) i = zi d (M.1 d) i' := fun h1 h2 h3 h4 => h3 (inj h1 h2 h4)
  refine AW.go (bs := b_State_addRow) [] 120 t_State_addRow ?_
  refine ⟨_, v_isFull l, by decide, f, s, t, rfl, M, d, rfl, hR, hd, ?_⟩
  refine And.intro (fun h => ?_) (fun h => ?_)
  · refine And.intro (zN_in hd (by omega)) ?_
    refine And.intro (zN_in hd (by omega)) ?_
    refine And.intro (zN_in hd (by omega)) ?_
    show ∃ sp : Sp, _
    have ew : nI ([4, 3, 5, 2, 4, 7].getD (iI (d : Int)).toNatClampNeg 0) = iI ((oW d : Nat) : Int) := z_tab _ (by omega)
    rw [ew, zN_cl (by omega), hs, zn_i 1, iI_add]
    refine ⟨_, v_put l, by decide, f, _, t, rfl, d, M.1 d, 0, a, rfl, hd, hn, by omega, ?_⟩
    refine ⟨_, v_put l, by decide, _, _, t, rfl, d, M.1 d, 1, b, rfl, hd, hn, by omega, ?_⟩
    refine And.intro (fun h2 => ?_) (fun h2 => ?_)
    · rw [zn_i, zc_le (by omega) (by omega) (by omega) (by omega)] at h2
      refine And.intro (fun h3 => ?_) (fun h3 => by rw [zn_i, zc_le (by omega) (by omega) (by omega) (by omega)] at h3; omega)
      refine And.intro (fun h4 => ?_) (fun h4 => by rw [zn_i, zc_le (by omega) (by omega) (by omega) (by omega)] at h4; omega)
      refine Or.inr (hK _ (fun i h5 h6 => ?_) (fun y hy => ?_))
      · have : i = 0 ∨ i = 1 := by omega
        rcases this with rfl | rfl
        · simp only [upd]; rw [if_neg (ne (by omega) (by omega) (by omega)), if_pos trivial]; rfl
        · simp only [upd]; rw [if_pos trivial]; rfl
      · simp only [upd]; rw [if_neg (hy 1 (by omega) (by omega)), if_neg (hy 0 (by omega) (by omega))]
    · rw [zn_i, zc_le (by omega) (by omega) (by omega) (by omega)] at h2
      refine ⟨_, v_put l, by decide, _, _, t, rfl, d, M.1 d, 2, c, rfl, hd, hn, by omega, ?_⟩
      refine And.intro (fun h3 => ?_) (fun h3 => ?_)
      · rw [zn_i, zc_le (by omega) (by omega) (by omega) (by omega)] at h3
        refine And.intro (fun h4 => ?_) (fun h4 => by rw [zn_i, zc_le (by omega) (by omega) (by omega) (by omega)] at h4; omega)
        refine Or.inr (hK _ (fun i h5 h6 => ?_) (fun y hy => ?_))
        · have : i = 0 ∨ i = 1 ∨ i = 2 := by omega
          rcases this with rfl | rfl | rfl
          · simp only [upd]; rw [if_neg (ne (by omega) (by omega) (by omega)), if_neg (ne (by omega) (by omega) (by omega)), if_pos trivial]; rfl
          · simp only [upd]; rw [if_neg (ne (by omega) (by omega) (by omega)), if_pos trivial]; rfl
          · simp only [upd]; rw [if_pos trivial]; rfl
        · simp only [upd]; rw [if_neg (hy 2 (by omega) (by omega)), if_neg (hy 1 (by omega) (by omega)), if_neg (hy 0 (by omega) (by omega))]
      · rw [zn_i, zc_le (by omega) (by omega) (by omega) (by omega)] at h3
        refine ⟨_, v_put l, by decide, _, _, t, rfl, d, M.1 d, 3, x, rfl, hd, hn, by omega, ?_⟩
        refine And.intro (fun h4 => ?_) (fun h4 => ?_)
        · rw [zn_i, zc_le (by omega) (by omega) (by omega) (by omega)] at h4
          refine Or.inr (hK _ (fun i h5 h6 => ?_) (fun y hy => ?_))
          · have : i = 0 ∨ i = 1 ∨ i = 2 ∨ i = 3 := by omega
            rcases this with rfl | rfl | rfl | rfl
            · simp only [upd]; rw [if_neg (ne (by omega) (by omega) (by omega)), if_neg (ne (by omega) (by omega) (by omega)), if_neg (ne (by omega) (by omega) (by omega)), if_pos trivial]; rfl
            · simp only [upd]; rw [if_neg (ne (by omega) (by omega) (by omega)), if_neg (ne (by omega) (by omega) (by omega)), if_pos trivial]; rfl
            · simp only [upd]; rw [if_neg (ne (by omega) (by omega) (by omega)), if_pos trivial]; rfl
            · simp only [upd]; rw [if_pos trivial]; rfl
          · simp only [upd]; rw [if_neg (hy 3 (by omega) (by omega)), if_neg (hy 2 (by omega) (by omega)), if_neg (hy 1 (by omega) (by omega)), if_neg (hy 0 (by omega) (by omega))]
        · rw [zn_i, zc_le (by omega) (by omega) (by omega) (by omega)] at h4
          refine ⟨_, v_put l, by decide, _, _, t, rfl, d, M.1 d, 4, e, rfl, hd, hn, by omega, ?_⟩
          refine Or.inr (hK _ (fun i h5 h6 => ?_) (fun y hy => ?_))
          · have : i = 0 ∨ i = 1 ∨ i = 2 ∨ i = 3 ∨ i = 4 := by omega
            rcases this with rfl | rfl | rfl | rfl | rfl
            · simp only [upd]; rw [if_neg (ne (by omega) (by omega) (by omega)), if_neg (ne (by omega) (by omega) (by omega)), if_neg (ne (by omega) (by omega) (by omega)), if_neg (ne (by omega) (by omega) (by omega)), if_pos trivial]; rfl
            · simp only [upd]; rw [if_neg (ne (by omega) (by omega) (by omega)), if_neg (ne (by omega) (by omega) (by omega)), if_neg (ne (by omega) (by omega) (by omega)), if_pos trivial]; rfl
            · simp only [upd]; rw [if_neg (ne (by omega) (by omega) (by omega)), if_neg (ne (by omega) (by omega) (by omega)), if_pos trivial]; rfl
            · simp only [upd]; rw [if_neg (ne (by omega) (by omega) (by omega)), if_pos trivial]; rfl
            · simp only [upd]; rw [if_pos trivial]; rfl
          · simp only [upd]; rw [if_neg (hy 4 (by omega) (by omega)), if_neg (hy 3 (by omega) (by omega)), if_neg (hy 2 (by omega) (by omega)), if_neg (hy 1 (by omega) (by omega)), if_neg (hy 0 (by omega) (by omega))]
  · rw [zc_beq, decide_eq_false_iff_not] at h
    omega
theorem RS.add {f s t f' : Nat → Int32} {M : Od} (h : RS f s t M) {d : Nat} (hd : d < 6) (hn : M.1 d < oX d) {row : Nat → Int} (h1 : ∀ c, c < oW d → f' (zi d (M.1 d) c) = iI (row c)) (h2 : ∀ y, (∀ c, c < oW d → y ≠ zi d (M.1 d) c) → f' y = f y) : RS f' (upd s d (iI ((M.1 d : Int) + 1))) t (oAdd M d row) := by
  refine ⟨fun x hx => ?_, fun x k c hx hk hc => ?_, h.2.2⟩
  · show upd s d (iI ((M.1 d : Int) + 1)) x = iI ((if x = d then M.1 x + 1 else M.1 x : Nat) : Int) ∧ (if x = d then M.1 x + 1 else M.1 x) ≤ oX x
    unfold upd
    by_cases e : x = d
    · subst e; rw [if_pos rfl, if_pos rfl]; exact ⟨by push_cast; rfl, by omega⟩
    · rw [if_neg e, if_neg e]; exact h.1 x hx
  · replace hk : k < (if x = d then M.1 x + 1 else M.1 x) := hk
    show f' (zi x k c) = iI (if x = d ∧ k = M.1 d then row c else M.2.1 x k c)
    by_cases e : x = d ∧ k = M.1 d
    · rw [if_pos e, e.1, e.2]; exact h1 c (by rw [← e.1]; exact hc)
    · rw [if_neg e]
      have hk' : k < M.1 x := by
        by_cases e1 : x = d
        · rw [if_pos e1] at hk
          subst e1
          have : ¬ k = M.1 x := fun q => e ⟨rfl, q⟩
          omega
        · rw [if_neg e1] at hk; exact hk
      rw [h2 _ (fun c' hc' q => ?_)]
      · exact h.2.1 x k c hx hk' hc
      · obtain ⟨q1, q2, -⟩ := zi_inj hx hd (Nat.lt_of_lt_of_le hk' (h.max x hx)) hn hc hc' q
        exact e ⟨q1, q2⟩
/-- a row of at most five columns -/
def sp_addRowM : Sp := spM 1 (fun f s t as K => ∃ (M : Od) (d : Nat) (a b c x e : Int), as = [.ref 0, .int (iI d), .int (iI a), .int (iI b), .int (iI c), .int (iI x), .int (iI e)] ∧ RS f s t M ∧ d < 5 ∧ M.1 d < oX d ∧
  ∀ f' s', RS f' s' t (oAdd M d (fun i => [a, b, c, x, e].getD i 0)) → K (some (.int (iI (M.1 d)))) f' s' t)
theorem v_addRowM (l : Launch) : z_V l 54 sp_addRowM := (v_addRow l).mono _ (by
  rintro as σ K ⟨f, s, t, rfl, M, d, a, b, c, x, e, rfl, hR, hd, hn, hK⟩
  have hw : oW d ≤ 5 := by
    have key : ∀ d, d < 5 → oW d ≤ 5 := by decide +kernel
    exact key d hd
  refine ⟨f, s, t, rfl, M, d, _, _, _, _, _, rfl, hR, by omega, hn, fun f' h1 h2 => hK f' _ (hR.add (by omega) hn (fun c' hc' => ?_) (fun y hy => h2 y (fun i _ hi => hy i hi)))⟩
  rw [h1 c' (by omega) hc']
  have : c' = 0 ∨ c' = 1 ∨ c' = 2 ∨ c' = 3 ∨ c' = 4 := by omega
  rcases this with rfl | rfl | rfl | rfl | rfl <;> rfl)
def sp_addRequest : Sp := spM 2 (fun f s t as K => ∃ (M : Od) (p o v k a y : Int), as = [.ref 0, .int (iI p), .int (iI o), .int (iI v), .int (iI k), .int (iI a), .int (iI y)] ∧ RS f s t M ∧ M.1 5 < 40 ∧
  ∀ f' s', RS f' s' t (oAdd M 5 (fun i => [p, o, v, k, a, y, -2].getD i 0)) → K (some (.int (iI (M.1 5)))) f' s' t)
theorem v_addRequest (l : Launch) : z_V l 55 sp_addRequest := by
  refine z_V.of (by decide +kernel) ?_
  rintro as σ K ⟨f, s, t, rfl, M, p, o, v, k, a, y, rfl, hR, hn, hK⟩
  have ne : ∀ {i i' : Nat}, i < 7 → i' < 7 → i ≠ i' → ¬ zi 5 (M.1 5) i = zi 5 (M.1 5) i' := fun h1 h2 h3 h4 => h3 (zi_inj (by omega) (by omega) hn hn h1 h2 h4).2.2
  refine AW.go (bs := b_State_addRequest) [] 120 t_State_addRequest ?_
  refine ⟨_, v_addRow l, by decide, f, s, t, rfl, M, 5, _, _, _, _, _, rfl, hR, by omega, hn, fun f1 h1 h2 => ?_⟩
  refine And.intro (fun h => ?_) (fun h => ?_)
  · have h := (zc_eq (by omega) (by omega) (by omega) (by omega)).mp h
    omega
  · refine ⟨_, v_put l, by decide, _, _, t, rfl, 5, M.1 5, 5, _, rfl, by omega, hn, by decide, ?_⟩
    refine ⟨_, v_put l, by decide, _, _, t, rfl, 5, M.1 5, 6, _, rfl, by omega, hn, by decide, ?_⟩
    refine Or.inr (hK _ _ (hR.add (by omega) hn (fun c hc => ?_) (fun y hy => ?_)))
    · have hc : c < 7 := hc
      have : c < 5 ∨ c = 5 ∨ c = 6 := by omega
      rcases this with h3 | rfl | rfl
      · simp only [upd]
        rw [if_neg (ne (by omega) (by omega) (by omega)), if_neg (ne (by omega) (by omega) (by omega)), h1 c h3 hc]
        have : c = 0 ∨ c = 1 ∨ c = 2 ∨ c = 3 ∨ c = 4 := by omega
        rcases this with rfl | rfl | rfl | rfl | rfl <;> rfl
      · simp only [upd]
        rw [if_neg (ne (by omega) (by omega) (by omega)), if_pos trivial]; rfl
      · simp only [upd]
        rw [if_pos trivial]; rfl
    · simp only [upd]
      rw [if_neg (hy 6 (by decide)), if_neg (hy 5 (by decide))]
      exact h2 y (fun i _ hi => hy i hi)
