/-! THE TEXT THAT A TAPE TELLS: what is read of it -/
abbrev Tp : Type := Nat × (Nat → Int32)
def run (P : Nat → Bool) : Nat → Nat → Nat
  | 0, a => a
  | f + 1, a => if P a then run P f (a + 1) else a
set_option maxRecDepth 20000 in
theorem run_eq {P : Nat → Bool} : ∀ {f a b : Nat}, a ≤ b → b ≤ a + f → (∀ i, a ≤ i → i < b → P i = true) → P b = false → run P f a = b
  | 0, a, b, h1, h2, _, _ => by rw [run]; omega
  | f + 1, a, b, h1, h2, h3, h4 => by
    rw [run]
    by_cases e : a = b
    · subst e; rw [h4]; rfl
    · rw [h3 a (by omega) (by omega), if_pos rfl]
      exact run_eq (by omega) (by omega) (fun i h5 h6 => h3 i (by omega) h6) h4
set_option maxRecDepth 20000 in
theorem run_ge {P : Nat → Bool} : ∀ {f a : Nat}, a ≤ run P f a
  | 0, a => by rw [run]; omega
  | f + 1, a => by
    rw [run]
    split
    · exact Nat.le_trans (Nat.le_succ a) run_ge
    · exact Nat.le_refl _
set_option maxRecDepth 20000 in
theorem run_le {P : Nat → Bool} {n : Nat} (h : ∀ i, n ≤ i → P i = false) : ∀ {f a : Nat}, a ≤ n → run P f a ≤ n
  | 0, a, ha => by rw [run]; exact ha
  | f + 1, a, ha => by
    rw [run]
    split
    · next e =>
      refine run_le h ?_
      by_cases q : n ≤ a
      · rw [h a q] at e; cases e
      · omega
    · exact ha
set_option maxRecDepth 20000 in
theorem run_in {P : Nat → Bool} : ∀ {f a i : Nat}, a ≤ i → i < run P f a → P i = true
  | 0, a, i, h1, h2 => by rw [run] at h2; omega
  | f + 1, a, i, h1, h2 => by
    rw [run] at h2
    split at h2
    · next e =>
      by_cases q : a = i
      · subst q; exact e
      · exact run_in (by omega) h2
    · omega
set_option maxRecDepth 20000 in
theorem run_end {P : Nat → Bool} {n : Nat} (h : ∀ i, n ≤ i → P i = false) : ∀ {f a : Nat}, n < a + f → P (run P f a) = false
  | 0, a, ha => by rw [run]; exact h a (by omega)
  | f + 1, a, ha => by
    rw [run]
    split
    · exact run_end h (by omega)
    · next e => simpa using e
def tbt (T : Tp) (i : Nat) : Int := byI T.1 T.2 (i : Int)
set_option maxRecDepth 20000 in
theorem tb_rng (T : Tp) (i : Nat) : -1 ≤ tbt T i ∧ tbt T i ≤ 255 := byI_rng _ _ _
set_option maxRecDepth 20000 in
theorem tb_out {T : Tp} {i : Nat} (h : T.1 ≤ i) : tbt T i = -1 := by unfold tbt byI; rw [if_neg (by omega)]
set_option maxRecDepth 20000 in
theorem tb_in {T : Tp} {i : Nat} (h : i < T.1) : 0 ≤ tbt T i := by
  unfold tbt byI; rw [if_pos (by omega)]; exact (and255 _).1
def isB (T : Tp) (i : Nat) : Bool := decide (tbt T i = 32)
def isLt (T : Tp) (i : Nat) : Bool := decide (97 ≤ tbt T i ∧ tbt T i ≤ 122)
def isDg (T : Tp) (i : Nat) : Bool := decide (48 ≤ tbt T i ∧ tbt T i ≤ 57)
def sk (T : Tp) (a : Nat) : Nat := run (isB T) 401 a
def we (T : Tp) (a : Nat) : Nat := run (isLt T) 401 a
def wl (T : Tp) (a : Nat) : Nat := we T a - a
def de (T : Tp) (a : Nat) : Nat := run (isDg T) 401 a
set_option maxRecDepth 20000 in
theorem isB_out {T : Tp} (i : Nat) (h : T.1 ≤ i) : isB T i = false := by unfold isB; rw [tb_out h]; decide
set_option maxRecDepth 20000 in
theorem isLt_out {T : Tp} (i : Nat) (h : T.1 ≤ i) : isLt T i = false := by unfold isLt; rw [tb_out h]; decide
set_option maxRecDepth 20000 in
theorem isDg_out {T : Tp} (i : Nat) (h : T.1 ≤ i) : isDg T i = false := by unfold isDg; rw [tb_out h]; decide
set_option maxRecDepth 20000 in
theorem sk_rng {T : Tp} {a : Nat} (h : a ≤ T.1) : a ≤ sk T a ∧ sk T a ≤ T.1 := ⟨run_ge, run_le isB_out h⟩
set_option maxRecDepth 20000 in
theorem we_rng {T : Tp} {a : Nat} (h : a ≤ T.1) : a ≤ we T a ∧ we T a ≤ T.1 := ⟨run_ge, run_le isLt_out h⟩
set_option maxRecDepth 20000 in
theorem de_rng {T : Tp} {a : Nat} (h : a ≤ T.1) : a ≤ de T a ∧ de T a ≤ T.1 := ⟨run_ge, run_le isDg_out h⟩
set_option maxRecDepth 20000 in
theorem sk_sk {T : Tp} (hn : T.1 ≤ 400) {a : Nat} (h : a ≤ T.1) : sk T (sk T a) = sk T a := by
  have h1 := sk_rng h
  exact run_eq (Nat.le_refl _) (by omega) (fun i h2 h3 => by omega) (run_end isB_out (by omega))
set_option maxRecDepth 20000 in
theorem sk_ne {T : Tp} (hn : T.1 ≤ 400) {a : Nat} (h : a ≤ T.1) : tbt T (sk T a) ≠ 32 := by
  have := run_end (P := isB T) (f := 401) (a := a) isB_out (by omega)
  intro e
  have e2 : isB T (sk T a) = true := decide_eq_true e
  rw [show isB T (sk T a) = false from this] at e2
  cases e2
/-- a number of digits, held at 100000 -/
def nvF (T : Tp) (s : Nat) : Nat → Int
  | 0 => 0
  | k + 1 => min 100000 (10 * nvF T s k + tbt T (s + k) - 48)
def nv (T : Tp) (s : Nat) : Int := nvF T s (de T s - s)
set_option maxRecDepth 20000 in
theorem nvF_rng {T : Tp} {s : Nat} : ∀ {k : Nat}, (∀ i, s ≤ i → i < s + k → isDg T i = true) → 0 ≤ nvF T s k ∧ nvF T s k ≤ 100000
  | 0, _ => by rw [nvF]; omega
  | k + 1, h => by
    have h1 := nvF_rng (k := k) (fun i a b => h i a (by omega))
    have h2 := h (s + k) (by omega) (by omega)
    unfold isDg at h2
    have h2 := of_decide_eq_true h2
    rw [nvF]; omega
set_option maxRecDepth 20000 in
theorem nv_rng {T : Tp} {s : Nat} : 0 ≤ nv T s ∧ nv T s ≤ 100000 := by
  have hg : s ≤ de T s := run_ge
  exact nvF_rng (fun i h1 h2 => run_in h1 (by show i < de T s; omega))
/-- a word stands here, whole -/
def isWd (T : Tp) (a i : Nat) : Bool := decide (wl T a = sln i ∧ ∀ k, k < sln i → tbt T (a + k) = (chr i k : Nat))
def partAt (T : Tp) (a : Nat) : Option Nat := (List.range 9).find? (fun p => decide (0 < wl T a) && isWd T a (wrd p))
def sgn (p : Nat) : Nat := [11, 7, 8, 9, 15, 0, 16, 3, 6].getD p 0
set_option maxRecDepth 20000 in
theorem wrd_dist : ∀ p, p < 9 → ∀ q, q < 9 → p ≠ q → sln (wrd p) ≠ sln (wrd q) ∨ ∃ k, k < sln (wrd p) ∧ chr (wrd p) k ≠ chr (wrd q) k := by
  have key : ∀ p, p < 9 → ∀ q, q < 9 → p ≠ q → sln (wrd p) ≠ sln (wrd q) ∨ ∃ k, k < 7 ∧ (k < sln (wrd p) ∧ chr (wrd p) k ≠ chr (wrd q) k) := by decide +kernel
  intro p hp q hq h
  rcases key p hp q hq h with h1 | ⟨k, _, h2⟩
  · exact Or.inl h1
  · exact Or.inr ⟨k, h2⟩
set_option maxRecDepth 20000 in
theorem isWd_inj {T : Tp} {a p q : Nat} (hp : p < 9) (hq : q < 9) (h1 : isWd T a (wrd p) = true) (h2 : isWd T a (wrd q) = true) : p = q := by
  by_cases e : p = q
  · exact e
  · have h1 := of_decide_eq_true h1
    have h2 := of_decide_eq_true h2
    rcases wrd_dist p hp q hq e with h | ⟨k, hk, h⟩
    · exact absurd (h1.1.symm.trans h2.1) h
    · have a1 := h1.2 k hk
      have a2 := h2.2 k (by have := h1.1; have := h2.1; omega)
      rw [a1] at a2
      exact absurd (by omega) h
set_option maxRecDepth 20000 in
theorem partAt_some {T : Tp} {a p : Nat} (hp : p < 9) (h0 : 0 < wl T a) (h : isWd T a (wrd p) = true) : partAt T a = some p := by
  unfold partAt
  cases e : (List.range 9).find? (fun p => decide (0 < wl T a) && isWd T a (wrd p)) with
  | none =>
    rw [List.find?_eq_none] at e
    have := e p (List.mem_range.mpr hp)
    rw [h, decide_eq_true h0] at this
    exact absurd rfl this
  | some q =>
    have h1 := List.find?_some e
    have h2 := List.mem_range.mp (List.mem_of_find?_eq_some e)
    simp only [Bool.and_eq_true] at h1
    rw [isWd_inj h2 hp h1.2 h]
set_option maxRecDepth 20000 in
theorem partAt_spec {T : Tp} {a p : Nat} (h : partAt T a = some p) : p < 9 ∧ 0 < wl T a ∧ isWd T a (wrd p) = true := by
  unfold partAt at h
  have h1 := List.find?_some h
  have h2 := List.mem_range.mp (List.mem_of_find?_eq_some h)
  simp only [Bool.and_eq_true, decide_eq_true_eq] at h1
  exact ⟨h2, h1.1, h1.2⟩
set_option maxRecDepth 20000 in
theorem partAt_none {T : Tp} {a : Nat} (h : ∀ p, p < 9 → 0 < wl T a → isWd T a (wrd p) = false) : partAt T a = none := by
  cases e : partAt T a with
  | none => rfl
  | some q =>
    obtain ⟨h1, h2, h3⟩ := partAt_spec e
    rw [h q h1 h2] at h3
    cases h3
/-- what a sign asks of a number -/
def ft (P : Nat) (g : Nat) (b v : Int) : Bool :=
  if g = 117 ∨ g = 112 then decide (v < P) else if g = 110 then decide (v < 16) else if g = 116 then decide (v < 16 ∧ v ≠ b) else if g = 102 then decide (v < 1000) else if g = 100 then decide (v < 1000 ∧ b ≤ v) else if g = 108 then decide (v ≤ 9999) else if g = 118 then decide (v < 10) else if g = 119 then decide (v ≤ 99) else if g = 99 then decide (v ≤ 9) else if g = 105 then decide (v ≤ 30) else false
def rdN (T : Tp) (ok : Int → Bool) (a : Nat) : Nat ⊕ (Int × Nat) :=
  if de T (sk T a) = sk T a then .inl (8 * sk T a + 1) else if ok (nv T (sk T a)) then .inr (nv T (sk T a), de T (sk T a)) else .inl (8 * sk T a + 2)
def rdNum (T : Tp) (P g : Nat) (b : Int) (a : Nat) : Nat ⊕ (Int × Nat) := if g = 117 ∧ isWd T (sk T a) 14 = true then .inr (-2, sk T a + 3) else rdN T (ft P g b) a
def rdNums (T : Tp) (P : Nat) : List Nat → Int → Nat → Nat ⊕ (List Int × Nat)
  | [], _, a => .inr ([], a)
  | g :: gs, b, a => match rdNum T P g b a with
    | .inl f => .inl f
    | .inr (v, e) => (match rdNums T P gs v e with
      | .inl f => .inl f
      | .inr (vs, e') => .inr (v :: vs, e'))
def fullP (D : Od) (told p : Nat) : Bool := if p < 6 then decide (oX p ≤ D.1 p) else told.testBit (p - 6)
def takeP (D : Od) (p : Nat) (vs : List Int) : Od := if p < 6 then oAdd D p (fun i => vs.getD i 0) else oSet D (p - 6) (vs.getD 0 0).toNat
def toldP (told p : Nat) : Nat := if p < 6 then told else told ||| 2 ^ (p - 6)
def rdPart (T : Tp) (D : Od) (told a : Nat) : Nat ⊕ (Od × Nat × Nat) := match partAt T a with
  | none => .inl (8 * a + 1)
  | some p => if fullP D told p then .inl (8 * a + 3) else match rdNums T (D.1 4) (strL (sgn p)) (-1) (a + wl T a) with
    | .inl f => .inl f
    | .inr (vs, e) => .inr (takeP D p vs, toldP told p, sk T e)
def rdAll (T : Tp) : Nat → Od → Nat → Nat → Nat ⊕ Od
  | 0, _, _, _ => .inl 1
  | k + 1, D, told, a => match rdPart T D told a with
    | .inl f => .inl f
    | .inr (D', t', e) => if T.1 ≤ e then .inr D' else if tbt T e ≠ 59 then .inl (8 * e + 1) else rdAll T k D' t' (sk T (e + 1))
def od0 : Od := (fun _ => 0, fun _ _ _ => 0, fun w => [0, 1, 2].getD w 0)
def rdF (T : Tp) : Nat ⊕ Od := if T.1 ≤ sk T 0 then .inr od0 else rdAll T 401 od0 0 (sk T 0)
def f_tell (S : St) : Int × St := match rdF S.2.2.2 with
  | .inl f => (-2 - (f : Int), (S.1, S.2.1, S.2.2.1, (0, S.2.2.2.2)))
  | .inr D => ((D.1 4 : Int), (D, [], S.2.2.1, (0, S.2.2.2.2)))
set_option maxRecDepth 20000 in
theorem od0_ok : OKM od0 := by
  refine ⟨fun k hk => ?_, fun k hk => ?_, fun k hk => ?_, fun k hk => ?_, fun k hk => ?_, fun k hk => ?_, by decide, by decide, by decide, fun d _ => Nat.zero_le _⟩ <;> exact absurd hk (Nat.not_lt_zero k)
/-- what holds of numbers that were read -/
def chk (P : Nat) : List Nat → Int → List Int → Prop
  | [], _, vs => vs = []
  | g :: gs, b, vs => ∃ v ws, vs = v :: ws ∧ ((g = 117 ∧ v = -2) ∨ (ft P g b v = true ∧ 0 ≤ v)) ∧ chk P gs v ws
set_option maxRecDepth 20000 in
theorem rdN_inr {T : Tp} {ok : Int → Bool} {a e : Nat} {v : Int} (h : rdN T ok a = .inr (v, e)) : v = nv T (sk T a) ∧ e = de T (sk T a) ∧ ok v = true ∧ de T (sk T a) ≠ sk T a := by
  unfold rdN at h
  split at h
  · cases h
  · next hne =>
    split at h
    · next hok =>
      injection h with h
      injection h with h1 h2
      subst h1; subst h2
      exact ⟨rfl, rfl, hok, hne⟩
    · cases h
set_option maxRecDepth 20000 in
theorem wl_3 {T : Tp} {a i : Nat} (ha : a ≤ T.1) (h : isWd T a i = true) : a + sln i ≤ T.1 := by
  have h := (of_decide_eq_true h).1
  have h2 := we_rng ha
  unfold wl at h
  omega
set_option maxRecDepth 20000 in
theorem rdNum_inr {T : Tp} {P g a e : Nat} {b v : Int} (ha : a ≤ T.1) (h : rdNum T P g b a = .inr (v, e)) : ((g = 117 ∧ v = -2) ∨ (ft P g b v = true ∧ 0 ≤ v)) ∧ a ≤ e ∧ e ≤ T.1 := by
  have h0 := sk_rng ha
  unfold rdNum at h
  split at h
  · next hg =>
    injection h with h
    injection h with h1 h2
    subst h1; subst h2
    have := wl_3 h0.2 hg.2
    have e3 : sln 14 = 3 := by decide
    exact ⟨Or.inl ⟨hg.1, rfl⟩, by omega, by omega⟩
  · obtain ⟨h1, h2, h3, -⟩ := rdN_inr h
    have h4 := de_rng h0.2
    refine ⟨Or.inr ⟨h3, ?_⟩, by omega, by omega⟩
    rw [h1]; exact nv_rng.1
set_option maxRecDepth 20000 in
theorem rdNums_inr {T : Tp} {P : Nat} : ∀ {gs : List Nat} {b : Int} {a e : Nat} {vs : List Int}, a ≤ T.1 → rdNums T P gs b a = .inr (vs, e) → chk P gs b vs ∧ a ≤ e ∧ e ≤ T.1
  | [], b, a, e, vs, ha, h => by
    rw [rdNums] at h
    injection h with h
    injection h with h1 h2
    exact ⟨h1.symm, by omega, by omega⟩
  | g :: gs, b, a, e, vs, ha, h => by
    rw [rdNums] at h
    split at h
    · cases h
    · next v e1 h1 =>
      split at h
      · cases h
      · next ws e2 h2 =>
        injection h with h
        injection h with h3 h4
        subst h3; subst h4
        obtain ⟨c1, c2, c3⟩ := rdNum_inr ha h1
        obtain ⟨c4, c5, c6⟩ := rdNums_inr c3 h2
        exact ⟨⟨v, ws, rfl, c1, c4⟩, by omega, by omega⟩
set_option maxRecDepth 20000 in
theorem takeP_ok {D : Od} (hO : OKM D) {told p : Nat} (hp : p < 9) (h5 : p ≠ 5) (hf : fullP D told p = false) {vs : List Int} (hc : chk (D.1 4) (strL (sgn p)) (-1) vs) : OKM (takeP D p vs) := by
  unfold takeP
  unfold fullP at hf
  have e := d9 hp
  rcases e with rfl | rfl | rfl | rfl | rfl | rfl | rfl | rfl | rfl
  · rw [if_pos (by omega)] at hf ⊢
    obtain ⟨v1, w1, rfl, c1, v2, w2, rfl, c2, v3, w3, rfl, c3, v4, w4, rfl, c4, -⟩ := hc
    simp [ft] at c1 c2 c3 c4 hf
    refine oAdd_ok hO (by omega) hf ?_
    show 0 ≤ v1 ∧ v1 < D.1 4 ∧ 0 ≤ v2 ∧ v2 < 16 ∧ 0 ≤ v3 ∧ v3 ≤ v4 ∧ v4 ≤ 999
    omega
  · rw [if_pos (by omega)] at hf ⊢
    obtain ⟨v1, w1, rfl, c1, v2, w2, rfl, c2, v3, w3, rfl, c3, -⟩ := hc
    simp [ft] at c1 c2 c3 hf
    refine oAdd_ok hO (by omega) hf ?_
    show 0 ≤ v1 ∧ v1 < 16 ∧ 0 ≤ v2 ∧ v2 ≤ v3 ∧ v3 ≤ 999
    omega
  · rw [if_pos (by omega)] at hf ⊢
    obtain ⟨v1, w1, rfl, c1, v2, w2, rfl, c2, v3, w3, rfl, c3, v4, w4, rfl, c4, v5, w5, rfl, c5, -⟩ := hc
    simp [ft] at c1 c2 c3 c4 c5 hf
    refine oAdd_ok hO (by omega) hf ?_
    show 0 ≤ v1 ∧ v1 < 16 ∧ 0 ≤ v2 ∧ v2 < 16 ∧ v1 ≠ v2 ∧ 0 ≤ v3 ∧ v3 ≤ v4 ∧ v4 ≤ 999 ∧ 0 ≤ v5 ∧ v5 ≤ 9999
    omega
  · rw [if_pos (by omega)] at hf ⊢
    obtain ⟨v1, w1, rfl, c1, v2, w2, rfl, c2, -⟩ := hc
    simp [ft] at c1 c2 hf
    refine oAdd_ok hO (by omega) hf ?_
    show 0 ≤ v1 ∧ v1 < 16 ∧ 0 ≤ v2 ∧ v2 < 10
    omega
  · rw [if_pos (by omega)] at hf ⊢
    obtain ⟨v1, w1, rfl, c1, v2, w2, rfl, c2, v3, w3, rfl, c3, v4, w4, rfl, c4, -⟩ := hc
    simp [ft] at c1 c2 c3 c4 hf
    refine oAdd_ok hO (by omega) hf ?_
    refine ⟨?_, fun c h1 h2 => ?_⟩
    · show v1 = -2 ∨ (0 ≤ v1 ∧ v1 < D.1 4)
      omega
    · have : c = 1 ∨ c = 2 ∨ c = 3 := by omega
      rcases this with rfl | rfl | rfl
      · show 0 ≤ v2 ∧ v2 ≤ 9999; omega
      · show 0 ≤ v3 ∧ v3 ≤ 9999; omega
      · show 0 ≤ v4 ∧ v4 ≤ 9999; omega
  · exact absurd rfl h5
  · rw [if_neg (by omega)] at hf ⊢
    obtain ⟨v1, w1, rfl, c1, -⟩ := hc
    simp [ft] at c1
    refine oSet_ok hO ⟨fun _ => ?_, fun q => by omega, fun q => by omega⟩
    show v1.toNat ≤ 99; omega
  · rw [if_neg (by omega)] at hf ⊢
    obtain ⟨v1, w1, rfl, c1, -⟩ := hc
    simp [ft] at c1
    refine oSet_ok hO ⟨fun q => by omega, fun _ => ?_, fun q => by omega⟩
    show v1.toNat ≤ 9; omega
  · rw [if_neg (by omega)] at hf ⊢
    obtain ⟨v1, w1, rfl, c1, -⟩ := hc
    simp [ft] at c1
    refine oSet_ok hO ⟨fun q => by omega, fun q => by omega, fun _ => ?_⟩
    show v1.toNat ≤ 30; omega
set_option maxRecDepth 20000 in
theorem partAt_ne5 {T : Tp} {a p : Nat} (h : partAt T a = some p) : p ≠ 5 := by
  rintro rfl
  obtain ⟨_, h2, h3⟩ := partAt_spec h
  have h3 := (of_decide_eq_true h3).1
  have : sln (wrd 5) = 0 := by decide
  omega
set_option maxRecDepth 20000 in
theorem rdPart_inr {T : Tp} {D D' : Od} {told t' a e : Nat} (hO : OKM D) (ha : a ≤ T.1) (h : rdPart T D told a = .inr (D', t', e)) : OKM D' ∧ a + 1 ≤ e ∧ e ≤ T.1 ∧ (told < 8 → t' < 8) := by
  unfold rdPart at h
  split at h
  · cases h
  · next p hp =>
    obtain ⟨p1, p2, p3⟩ := partAt_spec hp
    split at h
    · cases h
    · next hf =>
      rw [Bool.not_eq_true] at hf
      split at h
      · cases h
      · next vs e1 h1 =>
        injection h with h
        injection h with q1 q2
        injection q2 with q2 q3
        subst q1; subst q2; subst q3
        have hw := we_rng ha
        have hle : a + wl T a ≤ T.1 := by unfold wl at *; omega
        obtain ⟨c1, c2, c3⟩ := rdNums_inr hle h1
        have hs := sk_rng c3
        refine ⟨takeP_ok hO p1 (partAt_ne5 hp) hf c1, by omega, by omega, fun ht => ?_⟩
        unfold toldP
        split
        · exact ht
        · exact Nat.or_lt_two_pow (n := 3) ht (Nat.pow_lt_pow_right (by decide) (by omega))
set_option maxRecDepth 20000 in
theorem rdAll_inr {T : Tp} : ∀ {k : Nat} {D D' : Od} {told a : Nat}, OKM D → a ≤ T.1 → rdAll T k D told a = .inr D' → OKM D'
  | 0, _, _, _, _, _, _, h => by rw [rdAll] at h; cases h
  | k + 1, D, D', told, a, hO, ha, h => by
    rw [rdAll] at h
    split at h
    · cases h
    · next D1 t1 e1 h1 =>
      obtain ⟨c1, c2, c3, -⟩ := rdPart_inr hO ha h1
      split at h
      · injection h with h; subst h; exact c1
      · next hn =>
        split at h
        · cases h
        · exact rdAll_inr c1 (sk_rng (by omega)).2 h
set_option maxRecDepth 20000 in
theorem rdF_ok {T : Tp} {D : Od} (h : rdF T = .inr D) : OKM D := by
  unfold rdF at h
  split at h
  · injection h with h; subst h; exact od0_ok
  · exact rdAll_inr od0_ok (sk_rng (Nat.zero_le _)).2 h
