/-! what a route answers -/
def wQ (sp ls ln f s t : Nat → Int32) (len ak dy br ad dp lm rs : Int32) : List AE := [.inr (.inr (5, [.ref 5, .ref 3, .ref 1, .ref 2, .int len])), .inl (0, 72, sp), .inl (0, 192, ls), .inr (.inr (0, [.ref 5, .ref 4, .int ak, .int dy, .int br, .int ad, .int dp, .int lm, .int rs])), .inl (0, 16, ln), .inr (.inr (6, [.ref 6, .ref 7, .ref 8])), .inl (0, 648, f), .inl (0, 6, s), .inl (0, 3, t)]
def pQ : List (Nat × List Nat) := [(0, []), (0, [2]), (0, [3]), (0, [1]), (0, [1, 1]), (0, [0]), (0, [0, 0]), (0, [0, 1]), (0, [0, 2])]
/-- a contract that only reads a route -/
def spQ (rk : Nat) (P : Int → List SE → List Value → (Option Value → Prop) → Prop) : Sp := (rk, 0, 0, pQ, fun as σ K => ∃ (sp ls ln f s t : Nat → Int32) (ak dy br ad dp lm rs : Int32) (w : Int) (R : List SE), σ = wQ sp ls ln f s t (iI R.length) ak dy br ad dp lm rs ∧ RR sp ls w R ∧ R.length ≤ 12 ∧ P w R as (fun r => K r none))
def rOK (e : SE) : Prop := e.1 < 12 ∧ 0 ≤ e.2.1 ∧ e.2.1 ≤ 999 ∧ sOK e ∧ 2 ≤ e.2.2.2 ∧ e.2.2.2 ≤ 5
theorem sC_rng {e : SE} (h : rOK e) (w : Int) (c : Nat) : -2 ≤ sC e w c ∧ sC e w c ≤ 9999 := by
  obtain ⟨h1, h2, h3, h4, h5, h6⟩ := h
  unfold sC
  split
  · omega
  · omega
  · split
    · next x L he =>
      obtain ⟨q1, q2, q3, q4, q5⟩ := h4 x L he
      have := getLast_at q3
      have := q5 _ (List.mem_of_getElem? this)
      omega
    · omega
  · split
    · next x L he =>
      obtain ⟨q1, q2, q3, q4, q5⟩ := h4 x L he
      omega
    · omega
  · split
    · split <;> omega
    · omega
  · split
    · next x L he =>
      obtain ⟨q1, q2, q3, q4, q5⟩ := h4 x L he
      omega
    · omega
def sp_rhas : Sp := spQ 0 (fun w R as K => ∃ k : Int, as = [.ref 0, .int (iI k)] ∧ ir k ∧ K (some (.int (bI (decide (0 ≤ k ∧ k < R.length))))))
theorem v_rhas (l : Launch) : z_V l 37 sp_rhas := by
  refine z_V.ofP (by decide +kernel) ?_
  rintro as σ K Post ⟨sp, ls, ln, f, s, t, ak, dy, br, ad, dp, lm, rs, w, R, rfl, hRR, hl, k, rfl, ⟨k1, k2⟩, hK⟩ hP1 hP0
  refine AW.go (bs := b_Route_has) [] 50 t_Route_has ?_
  refine And.intro (fun h => ?_) (fun h => ?_)
  · rw [zc_lt0 k1 k2] at h
    refine And.intro (Or.inl rfl) (hP0 _ ?_)
    rwa [decide_eq_false (by omega)] at hK
  · rw [zc_lt0 k1 k2] at h
    refine And.intro (fun h2 => ?_) (fun h2 => ?_)
    · rw [zc_ge k1 k2 (by omega) (by omega)] at h2
      refine And.intro (Or.inl rfl) (hP0 _ ?_)
      rwa [decide_eq_false (by omega)] at hK
    · rw [zc_ge k1 k2 (by omega) (by omega)] at h2
      refine And.intro (Or.inr rfl) (hP0 _ ?_)
      rwa [decide_eq_true (by omega)] at hK
def sp_rcell : Sp := spQ 0 (fun w R as K => ∃ (k c : Nat) (e : SE) (x y : Int32), as = [.ref 0, .int x, .int y] ∧ x = iI k ∧ y = iI c ∧ R[k]? = some e ∧ c < 6 ∧ K (some (.int (iI (sC e w c)))))
theorem v_rcell (l : Launch) : z_V l 38 sp_rcell := by
  refine z_V.ofP (by decide +kernel) ?_
  rintro as σ K Post ⟨sp, ls, ln, f, s, t, ak, dy, br, ad, dp, lm, rs, w, R, rfl, hRR, hl, k, c, e, x, y, rfl, rfl, rfl, he, hc, hK⟩ hP1 hP0
  have hk := (List.getElem?_eq_some_iff.mp he).1
  have ei : iI (k : Int) * z_nn 6 0 + iI (c : Int) = iI ((6 * k + c : Nat) : Int) := by
    rw [zn_i, iI_mul, iI_add]; congr 1; push_cast; omega
  refine AW.go (bs := b_Route_cell) [] 50 t_Route_cell ?_
  show _ ∧ _
  rw [ei]
  refine And.intro (zN_in (by omega) (by omega)) (hP0 _ ?_)
  rw [zN_cl (by omega), (hRR k e he).1 c hc]
  exact hK
def sp_rinLine : Sp := spQ 0 (fun w R as K => ∃ (k i q : Nat) (e : SE) (x : Int) (L : List Nat), as = [.ref 0, .int (iI k), .int (iI i)] ∧ R[k]? = some e ∧ e.2.2.1 = some (x, L) ∧ L.length ≤ 16 ∧ L[i]? = some q ∧ K (some (.int (iI (q : Int)))))
theorem v_rinLine (l : Launch) : z_V l 40 sp_rinLine := by
  refine z_V.ofP (by decide +kernel) ?_
  rintro as σ K Post ⟨sp, ls, ln, f, s, t, ak, dy, br, ad, dp, lm, rs, w, R, rfl, hRR, hl, k, i, q, e, x, L, rfl, he, hx, hL, hq, hK⟩ hP1 hP0
  have hk := (List.getElem?_eq_some_iff.mp he).1
  have hi := (List.getElem?_eq_some_iff.mp hq).1
  have ei : iI (k : Int) * z_nn 16 0 + iI (i : Int) = iI ((16 * k + i : Nat) : Int) := by
    rw [zn_i, iI_mul, iI_add]; congr 1; push_cast; omega
  refine AW.go (bs := b_Route_inLine) [] 50 t_Route_inLine ?_
  show _ ∧ _
  rw [ei]
  refine And.intro (zN_in (by omega) (by omega)) (hP0 _ ?_)
  rw [zN_cl (by omega), (hRR k e he).2 x L hx i q hq]
  exact hK
def lC (R : List SE) (w : Int) (c : Nat) : Int := match R.getLast? with
  | some e => sC e w c
  | none => -1
theorem lC_rng {R : List SE} (h : ∀ e ∈ R, rOK e) (w : Int) (c : Nat) : -2 ≤ lC R w c ∧ lC R w c ≤ 9999 := by
  unfold lC
  split
  · next e he => exact sC_rng (h e (List.mem_of_getLast? he)) w c
  · omega
def sp_lastCell : Sp := spQ 1 (fun w R as K => ∃ (c : Nat), as = [.ref 0, .int (iI c)] ∧ c < 6 ∧ K (some (.int (iI (lC R w c)))))
theorem v_lastCell (l : Launch) : z_V l 39 sp_lastCell := by
  refine z_V.ofP (by decide +kernel) ?_
  rintro as σ K Post ⟨sp, ls, ln, f, s, t, ak, dy, br, ad, dp, lm, rs, w, R, rfl, hRR, hl, c, rfl, hc, hK⟩ hP1 hP0
  refine AW.go (bs := b_Route_lastCell) [] 50 t_Route_lastCell ?_
  refine And.intro (fun h => ?_) (fun h => ?_)
  · rw [zc_le0 (by omega) (by omega)] at h
    refine hP0 _ ?_
    have : R = [] := List.eq_nil_of_length_eq_zero (by omega)
    subst this
    exact hK
  · rw [zc_le0 (by omega) (by omega)] at h
    obtain ⟨e, he⟩ : ∃ e, R[R.length - 1]? = some e := ⟨_, List.getElem?_eq_getElem (by omega)⟩
    refine ⟨_, v_rcell l, by decide, sp, ls, ln, f, s, t, ak, dy, br, ad, dp, lm, rs, w, R, rfl, hRR, hl, R.length - 1, c, e, _, _, rfl, ?_, rfl, he, hc, hP0 _ ?_⟩
    · rw [zn_i, iI_sub]; congr 1; omega
    · rw [lC, List.getLast?_eq_getElem?, he] at hK
      exact hK
def sp_isApproved : Sp := spQ 2 (fun w R as K => (∀ e ∈ R, rOK e) ∧ as = [.ref 0] ∧ K (some (.int (bI (decide (lC R w 4 = 0))))))
theorem v_isApproved (l : Launch) : z_V l 41 sp_isApproved := by
  refine z_V.ofP (by decide +kernel) ?_
  rintro as σ K Post ⟨sp, ls, ln, f, s, t, ak, dy, br, ad, dp, lm, rs, w, R, rfl, hRR, hl, hok, rfl, hK⟩ hP1 hP0
  have hr := lC_rng hok w 4
  refine AW.go (bs := b_Route_isApproved) [] 50 t_Route_isApproved ?_
  refine ⟨_, v_lastCell l, by decide, sp, ls, ln, f, s, t, ak, dy, br, ad, dp, lm, rs, w, R, rfl, hRR, hl, 4, rfl, by omega, ?_⟩
  refine And.intro (fun h => ?_) (fun h => ?_)
  · rw [zc_ne0 (by omega) (by omega)] at h
    refine And.intro (Or.inl rfl) (hP0 _ ?_)
    rwa [decide_eq_false h] at hK
  · rw [zc_ne0 (by omega) (by omega)] at h
    refine And.intro (Or.inr rfl) (hP0 _ ?_)
    rwa [decide_eq_true (by omega)] at hK
def outF (R : List SE) (w : Int) (c : Int) : Int := if c = 0 then (if lC R w 4 = 0 then 1 else 2) else if c = 1 then lC R w 1 else if lC R w 4 = 0 then lC R w 2 else -2
def sp_outcome : Sp := spQ 3 (fun w R as K => ∃ c : Int, (∀ e ∈ R, rOK e) ∧ as = [.ref 0, .int (iI c)] ∧ ir c ∧ K (some (.int (iI (outF R w c)))))
theorem v_outcome (l : Launch) : z_V l 42 sp_outcome := by
  refine z_V.ofP (by decide +kernel) ?_
  rintro as σ K Post ⟨sp, ls, ln, f, s, t, ak, dy, br, ad, dp, lm, rs, w, R, rfl, hRR, hl, c, hok, rfl, ⟨c1, c2⟩, hK⟩ hP1 hP0
  unfold outF at hK
  refine AW.go (bs := b_Route_outcome) [] 80 t_Route_outcome ?_
  refine And.intro (fun h => ?_) (fun h => ?_)
  · rw [zc_ne0 c1 c2] at h
    rw [if_neg h] at hK
    refine And.intro (fun h => ?_) (fun h => ?_)
    · rw [zn_i, zc_ne c1 c2 (by omega) (by omega)] at h
      rw [if_neg (by omega)] at hK
      refine ⟨_, v_isApproved l, by decide, sp, ls, ln, f, s, t, ak, dy, br, ad, dp, lm, rs, w, R, rfl, hRR, hl, hok, rfl, ?_⟩
      refine And.intro (fun h => ?_) (fun h => ?_)
      · rw [zc_beq, decide_eq_false_iff_not] at h
        rw [if_neg h] at hK
        exact hP0 _ hK
      · rw [zc_beq, decide_eq_false_iff_not, Classical.not_not] at h
        rw [if_pos h] at hK
        refine ⟨_, v_lastCell l, by decide, sp, ls, ln, f, s, t, ak, dy, br, ad, dp, lm, rs, w, R, rfl, hRR, hl, 2, rfl, by omega, hP0 _ hK⟩
    · rw [zn_i, zc_ne c1 c2 (by omega) (by omega), Classical.not_not] at h
      rw [if_pos (by omega)] at hK
      refine ⟨_, v_lastCell l, by decide, sp, ls, ln, f, s, t, ak, dy, br, ad, dp, lm, rs, w, R, rfl, hRR, hl, 1, rfl, by omega, hP0 _ hK⟩
  · rw [zc_ne0 c1 c2, Classical.not_not] at h
    rw [if_pos h] at hK
    refine ⟨_, v_isApproved l, by decide, sp, ls, ln, f, s, t, ak, dy, br, ad, dp, lm, rs, w, R, rfl, hRR, hl, hok, rfl, ?_⟩
    refine And.intro (fun h => ?_) (fun h => ?_)
    · rw [zc_beq, decide_eq_false_iff_not] at h
      rw [if_neg h] at hK
      exact hP0 _ hK
    · rw [zc_beq, decide_eq_false_iff_not, Classical.not_not] at h
      rw [if_pos h] at hK
      exact hP0 _ hK
def cvF (w x : Int) : List SE → Nat → Int
  | [], _ => -1
  | e :: R, k => if x ≤ sC e w 3 then (k : Int) else cvF w x R (k + 1)
def sp_firstCovering : Sp := spQ 1 (fun w R as K => ∃ x : Int, (∀ e ∈ R, rOK e) ∧ as = [.ref 0, .int (iI x)] ∧ ir x ∧ K (some (.int (iI (cvF w x R 0)))))
theorem v_firstCovering (l : Launch) : z_V l 43 sp_firstCovering := by
  refine z_V.ofP (by decide +kernel) ?_
  rintro as σ K Post ⟨sp, ls, ln, f, s, t, ak, dy, br, ad, dp, lm, rs, w, R, rfl, hRR, hl, x, hok, rfl, ⟨x1, x2⟩, hK⟩ hP1 hP0
  have loop : ∀ (n k : Nat) (z : Int32), n = R.length - k → k ≤ R.length → z = iI (k : Int) → cvF w x (R.drop k) k = cvF w x R 0 →
      AW l 43 1 0 0 9 none Post 2 [some (.ref 0), some (.int (iI x)), some (.int z)] [] (wQ sp ls ln f s t (iI R.length) ak dy br ad dp lm rs) 0 0 := by
    intro n
    induction n using Nat.strongRecOn with
    | ind n ih =>
      intro k z hn hk hz hcv
      subst hz
      refine AW.go (bs := b_Route_firstCovering) [2] 60 t_Route_firstCovering ?_
      refine And.intro (fun h => ?_) (fun h => ?_)
      · rw [zc_ge (by omega) (by omega) (by omega) (by omega)] at h
        refine hP0 _ ?_
        rw [List.drop_eq_nil_of_le (by omega), cvF] at hcv
        rw [← hcv] at hK
        exact hK
      · rw [zc_ge (by omega) (by omega) (by omega) (by omega)] at h
        obtain ⟨e, he⟩ : ∃ e, R[k]? = some e := ⟨_, List.getElem?_eq_getElem (by omega)⟩
        have hr := sC_rng (hok e (List.mem_of_getElem? he)) w 3
        rw [List.drop_eq_getElem_cons (by omega), (List.getElem?_eq_some_iff.mp he).2, cvF] at hcv
        refine ⟨_, v_rcell l, by decide, sp, ls, ln, f, s, t, ak, dy, br, ad, dp, lm, rs, w, R, rfl, hRR, hl, k, 3, e, _, _, rfl, rfl, rfl, he, by omega, ?_⟩
        refine And.intro (fun h => ?_) (fun h => ?_)
        · rw [zc_lt (by omega) (by omega) x1 x2] at h
          rw [if_neg (by omega)] at hcv
          exact ih _ (by omega) (k + 1) _ rfl (by omega) (zn_inc k) hcv
        · rw [zc_lt (by omega) (by omega) x1 x2] at h
          rw [if_pos (by omega)] at hcv
          rw [← hcv] at hK
          exact hP0 _ hK
  refine AW.go (bs := b_Route_firstCovering) [2] 60 t_Route_firstCovering ?_
  exact loop _ 0 _ rfl (by omega) rfl rfl
def glF (w : Int) : List SE → Int → Int
  | [], g => g
  | e :: R, g => glF w R (max g (sC e w 3))
def sp_greatestLimit : Sp := spQ 1 (fun w R as K => ∃ x : Int, (∀ e ∈ R, rOK e) ∧ as = [.ref 0, .int (iI x)] ∧ ir x ∧ K (some (.int (iI (glF w (R.take (x + 1).toNat) 0)))))
theorem v_greatestLimit (l : Launch) : z_V l 44 sp_greatestLimit := by
  refine z_V.ofP (by decide +kernel) ?_
  rintro as σ K Post ⟨sp, ls, ln, f, s, t, ak, dy, br, ad, dp, lm, rs, w, R, rfl, hRR, hl, x, hok, rfl, ⟨x1, x2⟩, hK⟩ hP1 hP0
  have loop : ∀ (n k : Nat) (z : Int32) (g : Int), n = R.length - k → k ≤ R.length → z = iI (k : Int) → 0 ≤ g → g ≤ 9999 → glF w ((R.take (x + 1).toNat).drop k) g = glF w (R.take (x + 1).toNat) 0 →
      AW l 44 1 0 0 9 none Post 4 [some (.ref 0), some (.int (iI x)), some (.int (iI g)), some (.int z)] [] (wQ sp ls ln f s t (iI R.length) ak dy br ad dp lm rs) 0 0 := by
    intro n
    induction n using Nat.strongRecOn with
    | ind n ih =>
      intro k z g hn hk hz g0 g1 hcv
      subst hz
      refine AW.go (bs := b_Route_greatestLimit) [4] 60 t_Route_greatestLimit ?_
      refine And.intro (fun h => ?_) (fun h => ?_)
      · rw [zc_ge (by omega) (by omega) (by omega) (by omega)] at h
        refine hP0 _ ?_
        rw [List.drop_eq_nil_of_le (by rw [List.length_take]; omega), glF] at hcv
        rw [← hcv] at hK
        exact hK
      · rw [zc_ge (by omega) (by omega) (by omega) (by omega)] at h
        refine And.intro (fun h2 => ?_) (fun h2 => ?_)
        · rw [zc_gt (by omega) (by omega) x1 x2] at h2
          refine hP0 _ ?_
          rw [List.drop_eq_nil_of_le (by rw [List.length_take]; omega), glF] at hcv
          rw [← hcv] at hK
          exact hK
        · rw [zc_gt (by omega) (by omega) x1 x2] at h2
          obtain ⟨e, he⟩ : ∃ e, R[k]? = some e := ⟨_, List.getElem?_eq_getElem (by omega)⟩
          have hr := sC_rng (hok e (List.mem_of_getElem? he)) w 3
          rw [List.drop_eq_getElem_cons (by rw [List.length_take]; omega), List.getElem_take, (List.getElem?_eq_some_iff.mp he).2, glF] at hcv
          refine ⟨_, v_rcell l, by decide, sp, ls, ln, f, s, t, ak, dy, br, ad, dp, lm, rs, w, R, rfl, hRR, hl, k, 3, e, _, _, rfl, rfl, rfl, he, by omega, ?_⟩
          show AW _ _ _ _ _ _ _ _ _ _ _ _ _ _
          rw [max_iI (by omega) (by omega) (by omega) (by omega)]
          exact ih _ (by omega) (k + 1) _ _ rfl (by omega) (zn_inc k) (by omega) (by omega) hcv
  refine AW.go (bs := b_Route_greatestLimit) [4] 60 t_Route_greatestLimit ?_
  exact loop _ 0 _ 0 rfl (by omega) rfl (by omega) (by omega) rfl
def doF (w : Int) : List SE → Nat → Nat
  | [], g => g
  | e :: R, g => doF w R (g ||| bitI (sC e w 2))
def sp_doers : Sp := spQ 2 (fun w R as K => (∀ e ∈ R, rOK e) ∧ as = [.ref 0] ∧ K (some (.int (iI (doF w R 0 : Nat)))))
theorem v_doers (l : Launch) : z_V l 45 sp_doers := by
  refine z_V.ofP (by decide +kernel) ?_
  rintro as σ K Post ⟨sp, ls, ln, f, s, t, ak, dy, br, ad, dp, lm, rs, w, R, rfl, hRR, hl, hok, rfl, hK⟩ hP1 hP0
  have loop : ∀ (n k g : Nat) (z : Int32), n = R.length - k → k ≤ R.length → z = iI (k : Int) → doF w (R.drop k) g = doF w R 0 →
      AW l 45 2 0 0 9 none Post 4 [some (.ref 0), some (.int (iI (g : Int))), some (.int z)] [] (wQ sp ls ln f s t (iI R.length) ak dy br ad dp lm rs) 0 0 := by
    intro n
    induction n using Nat.strongRecOn with
    | ind n ih =>
      intro k g z hn hk hz hcv
      subst hz
      refine AW.go (bs := b_Route_doers) [4] 60 t_Route_doers ?_
      refine And.intro (fun h => ?_) (fun h => ?_)
      · rw [zc_ge (by omega) (by omega) (by omega) (by omega)] at h
        refine hP0 _ ?_
        rw [List.drop_eq_nil_of_le (by omega), doF] at hcv
        rw [← hcv] at hK
        exact hK
      · rw [zc_ge (by omega) (by omega) (by omega) (by omega)] at h
        obtain ⟨e, he⟩ : ∃ e, R[k]? = some e := ⟨_, List.getElem?_eq_getElem (by omega)⟩
        have hr := sC_rng (hok e (List.mem_of_getElem? he)) w 2
        rw [List.drop_eq_getElem_cons (by omega), (List.getElem?_eq_some_iff.mp he).2, doF] at hcv
        refine ⟨_, v_rcell l, by decide, sp, ls, ln, f, s, t, ak, dy, br, ad, dp, lm, rs, w, R, rfl, hRR, hl, k, 2, e, _, _, rfl, rfl, rfl, he, by omega, ?_⟩
        refine ⟨_, v_bitOf l, by decide, rfl, _, rfl, ⟨by omega, by omega⟩, ?_⟩
        show AW _ _ _ _ _ _ _ _ _ _ _ _ _ _
        rw [zb_or]
        exact ih _ (by omega) (k + 1) _ _ rfl (by omega) (zn_inc k) hcv
  refine AW.go (bs := b_Route_doers) [4] 60 t_Route_doers ?_
  exact loop _ 0 0 _ rfl (by omega) rfl rfl
def caF (e : SE) (w c : Int) : Bool := if c = 0 then true else if c = 1 then decide (sC e w 4 = 0) else decide (0 < sC e w 5)
def sp_countsAs : Sp := spQ 1 (fun w R as K => ∃ (k : Nat) (c : Int) (e : SE), (∀ e ∈ R, rOK e) ∧ as = [.ref 0, .int (iI k), .int (iI c)] ∧ R[k]? = some e ∧ ir c ∧ K (some (.int (bI (caF e w c)))))
theorem v_countsAs (l : Launch) : z_V l 46 sp_countsAs := by
  refine z_V.ofP (by decide +kernel) ?_
  rintro as σ K Post ⟨sp, ls, ln, f, s, t, ak, dy, br, ad, dp, lm, rs, w, R, rfl, hRR, hl, k, c, e, hok, rfl, he, ⟨c1, c2⟩, hK⟩ hP1 hP0
  unfold caF at hK
  refine AW.go (bs := b_Route_countsAs) [] 80 t_Route_countsAs ?_
  refine And.intro (fun h => ?_) (fun h => ?_)
  · rw [zc_ne0 c1 c2] at h
    rw [if_neg h] at hK
    refine And.intro (fun h => ?_) (fun h => ?_)
    · rw [zn_i, zc_ne c1 c2 (by omega) (by omega)] at h
      rw [if_neg (by omega)] at hK
      have hr := sC_rng (hok e (List.mem_of_getElem? he)) w 5
      refine ⟨_, v_rcell l, by decide, sp, ls, ln, f, s, t, ak, dy, br, ad, dp, lm, rs, w, R, rfl, hRR, hl, k, 5, e, _, _, rfl, rfl, rfl, he, by omega, ?_⟩
      refine And.intro (fun h => ?_) (fun h => ?_)
      · rw [zc_le0 (by omega) (by omega)] at h
        rw [decide_eq_false (by omega)] at hK
        exact And.intro (Or.inl rfl) (hP0 _ hK)
      · rw [zc_le0 (by omega) (by omega)] at h
        rw [decide_eq_true (by omega)] at hK
        exact And.intro (Or.inr rfl) (hP0 _ hK)
    · rw [zn_i, zc_ne c1 c2 (by omega) (by omega), Classical.not_not] at h
      rw [if_pos (by omega)] at hK
      have hr := sC_rng (hok e (List.mem_of_getElem? he)) w 4
      refine ⟨_, v_rcell l, by decide, sp, ls, ln, f, s, t, ak, dy, br, ad, dp, lm, rs, w, R, rfl, hRR, hl, k, 4, e, _, _, rfl, rfl, rfl, he, by omega, ?_⟩
      refine And.intro (fun h => ?_) (fun h => ?_)
      · rw [zc_ne0 (by omega) (by omega)] at h
        rw [decide_eq_false (by omega)] at hK
        exact And.intro (Or.inl rfl) (hP0 _ hK)
      · rw [zc_ne0 (by omega) (by omega)] at h
        rw [decide_eq_true (by omega)] at hK
        exact And.intro (Or.inr rfl) (hP0 _ hK)
  · rw [zc_ne0 c1 c2, Classical.not_not] at h
    rw [if_pos h] at hK
    exact And.intro (Or.inr rfl) (hP0 _ hK)
