/-! a step of a route -/
theorem find_congr {n : Nat} {P Q : Nat → Bool} (h : ∀ k, k < n → P k = Q k) : (List.range n).find? P = (List.range n).find? Q := by
  cases hq : (List.range n).find? Q with
  | some k =>
    rw [List.find?_range_eq_some] at hq ⊢
    have hk := List.mem_range.mp hq.2.1
    exact ⟨by rw [h k hk]; exact hq.1, hq.2.1, fun j hj => by rw [h j (by omega)]; exact hq.2.2 j hj⟩
  | none =>
    rw [List.find?_range_eq_none] at hq ⊢
    intro i hi
    rw [h i hi]; exact hq i hi
theorem bitsF_congr {P Q : Nat → Bool} {g : Nat → Nat} : ∀ {n : Nat}, (∀ k, k < n → P k = Q k) → bitsF P g n = bitsF Q g n
  | 0, _ => rfl
  | n + 1, h => by
    unfold bitsF
    rw [h n (by omega), bitsF_congr (n := n) (fun k hk => h k (by omega))]
theorem holder_chg {M : Od} {y y2 nx : Int} (h : chg M y nx) (h1 : y ≤ y2) (h2 : y2 < nx) (p : Int) : holder M p y2 = holder M p y := by
  unfold holder
  rw [find_congr (fun k hk => ?_)]
  unfold hold1
  rw [h.2.2 0 k (by omega) hk y2 h1 h2]
theorem askL_chg {M : Od} {y y2 : Int} (h : ∀ k, k < M.1 2 → cov M 2 k y2 = cov M 2 k y) {r1 r2 : Nat → Int → Nat → Nat × Option (Int × List Nat)} (hr : ∀ p w A, r1 p w A = r2 p w A) (p : Nat) (w : Int) : ∀ (q k A : Nat), k + q ≤ M.1 2 → askL M y2 r1 p w q k A = askL M y r2 p w q k A := by
  intro q
  induction q with
  | zero => intro k A _; rfl
  | succ q ih =>
    intro k A hk
    unfold askL
    rw [h k (by omega), hr]
    split
    · split
      · rfl
      · exact ih _ _ (by omega)
    · exact ih _ _ (by omega)
theorem askF_chg {M : Od} {y y2 : Int} (h : ∀ k, k < M.1 2 → cov M 2 k y2 = cov M 2 k y) (bar : Nat) (ak : Int) : ∀ (n p : Nat) (w : Int) (A : Nat), askF M bar ak y2 n p w A = askF M bar ak y n p w A := by
  intro n
  induction n with
  | zero => intro p w A; rfl
  | succ n ih =>
    intro p w A
    unfold askF
    rw [askL_chg h ih p w _ _ _ (by omega)]
theorem awB_chg {M : Od} {y y2 nx : Int} (h : chg M y nx) (h1 : y ≤ y2) (h2 : y2 < nx) (m : Mt) : awB M m y2 = awB M m y := by
  unfold awB awayM
  rw [bitsF_congr (fun k hk => ?_)]
  unfold aw1
  rw [h.2.2 1 k (by omega) hk y2 h1 h2]
theorem decF_chg {M : Od} {y y2 nx : Int} (h : chg M y nx) (h1 : y ≤ y2) (h2 : y2 < nx) (m : Mt) (post : Nat) : decF M m post y2 = decF M m post y := by
  unfold decF brB
  rw [holder_chg h h1 h2, awB_chg h h1 h2, askF_chg (fun k hk => h.2.2 2 k (by omega) hk y2 h1 h2)]
/-- the first day from y on, n more at most, on which someone decides; else the last -/
def dayF (M : Od) (m : Mt) (post : Nat) : Nat → Int → Int
  | 0, y => y
  | n + 1, y => if (decF M m post y).isSome then y else dayF M m post n (y + 1)
theorem dayF_skip {M : Od} {m : Mt} {post : Nat} : ∀ (j n : Nat) (y : Int), (∀ i : Nat, i < j → (decF M m post (y + i)).isSome = false) → j ≤ n → dayF M m post n y = dayF M m post (n - j) (y + j) := by
  intro j
  induction j with
  | zero => intro n y _ _; simp
  | succ j ih =>
    intro n y h hn
    obtain ⟨n', rfl⟩ : ∃ n', n = n' + 1 := ⟨n - 1, by omega⟩
    have h0 := h 0 (by omega)
    rw [show y + ((0 : Nat) : Int) = y by omega] at h0
    rw [dayF, h0, if_neg (by decide), ih n' (y + 1) (fun i hi => by have := h (i + 1) (by omega); rw [show y + 1 + (i : Int) = y + ((i + 1 : Nat) : Int) by push_cast; omega]; exact this) (by omega)]
    congr 1
    · omega
    · push_cast; omega
theorem dayF_some {M : Od} {m : Mt} {post n : Nat} {y : Int} (h : (decF M m post y).isSome = true) : dayF M m post n y = y := by
  cases n with
  | zero => rfl
  | succ n => rw [dayF, if_pos h]
theorem dayF_rng (M : Od) (m : Mt) (post : Nat) : ∀ (n : Nat) (y : Int), y ≤ dayF M m post n y ∧ dayF M m post n y ≤ y + n
  | 0, y => ⟨Int.le_refl _, by simp [dayF]⟩
  | n + 1, y => by
    have := dayF_rng M m post n (y + 1)
    unfold dayF
    split
    · omega
    · push_cast; omega
abbrev SE : Type := Nat × Int × Option (Int × List Nat) × Int
def lastW (M : Od) (d : Int) : Int := min (d + (M.2.2 2 : Int)) 999
def stepF (M : Od) (m : Mt) (post : Nat) (d : Int) : SE := (post, dayF M m post (lastW M d - d).toNat d, decF M m post (dayF M m post (lastW M d - d).toNat d), reaF M m post d)
/-- the columns of a step, if w is the whole -/
def sC (e : SE) (w : Int) (c : Nat) : Int := match c with
  | 0 => (e.1 : Int)
  | 1 => e.2.1
  | 2 => (match e.2.2.1 with | some (_, L) => ((L.getLast?.getD 0 : Nat) : Int) | none => -2)
  | 3 => (match e.2.2.1 with | some (x, _) => x | none => -2)
  | 4 => (match e.2.2.1 with | some (x, _) => (if x < w then 1 else 0) | none => e.2.2.2)
  | _ => (match e.2.2.1 with | some (_, L) => ((L.length : Nat) : Int) - 1 | none => -2)
def RR (sp ls : Nat → Int32) (w : Int) (R : List SE) : Prop := ∀ (i : Nat) (e : SE), R[i]? = some e → (∀ c, c < 6 → sp (6 * i + c) = iI (sC e w c)) ∧ ∀ x L, e.2.2.1 = some (x, L) → ∀ (j q : Nat), L[j]? = some q → ls (16 * i + j) = iI (q : Int)
theorem decF_ok {M : Od} (hO : OKM M) {m : Mt} (hm : mOK m) {post : Nat} (hp : post < M.1 4) {day x : Int} {L : List Nat} (h : decF M m post day = some (x, L)) : 0 ≤ x ∧ x ≤ 9999 ∧ 1 ≤ L.length ∧ L.length ≤ 16 ∧ ∀ e ∈ L, e < 16 := by
  unfold decF at h
  split at h
  · cases h
  · split at h
    · cases h
    · next h1 h2 =>
      have hh := holder_rng hO post day
      obtain ⟨m1, m2, m3, m4, m5, m6⟩ := hm
      have hc := (hO.2.2.2.2.1 post hp).2 (1 + (mK m).toNat) (by omega) (by omega)
      exact (askF_ok hO (bar := brB M m day) (ak := mP m) (day := day) 16 _ _ 0 (by omega) hc.1 hc.2 (by omega)).2 x L h
theorem reaF_rng (M : Od) (m : Mt) (post : Nat) (day : Int) : 2 ≤ reaF M m post day ∧ reaF M m post day ≤ 5 := by
  unfold reaF; split <;> (try split) <;> (try split) <;> omega
/-- Route's world: the object, its rows, Desk with its line, State, Matter -/
def wR (sp ls ln f s t : Nat → Int32) (len ak dy br ad dp lm rs : Int32) (p v k o y w a l : Int32) : List AE := [.inr (.inr (5, [.ref 5, .ref 3, .ref 1, .ref 2, .int len])), .inl (0, 72, sp), .inl (0, 192, ls), .inr (.inr (0, [.ref 5, .ref 4, .int ak, .int dy, .int br, .int ad, .int dp, .int lm, .int rs])), .inl (0, 16, ln), .inr (.inr (6, [.ref 6, .ref 7, .ref 8])), .inl (0, 648, f), .inl (0, 6, s), .inl (0, 3, t), .inr (.inr (2, [.int p, .int v, .int k, .int o, .int y, .int w, .int a, .int l]))]
def pR : List (Nat × List Nat) := [(0, []), (0, [2]), (0, [3]), (0, [1]), (0, [1, 1]), (0, [0]), (0, [0, 0]), (0, [0, 1]), (0, [0, 2]), (1, [])]
