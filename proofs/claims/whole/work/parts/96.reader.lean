/-! the reader -/
def wRd (tbx : Nat → Int32) (tz : Int32) (f s t nu : Nat → Int32) (ra rf rt : Int32) : List AE := [.inr (.inr (4, [.ref 1, .ref 3, .ref 7, .int ra, .int rf, .int rt])), .inr (.inr (7, [.ref 2, .int tz])), .inl (1, 400, tbx), .inr (.inr (6, [.ref 4, .ref 5, .ref 6])), .inl (0, 648, f), .inl (0, 6, s), .inl (0, 3, t), .inl (0, 5, nu)]
def pRd : List (Nat × List Nat) := [(0, []), (0, [0]), (0, [0, 0]), (0, [1]), (0, [1, 0]), (0, [1, 1]), (0, [1, 2]), (0, [2])]
def TB (T : Tp) (tbx : Nat → Int32) : Prop := T.1 ≤ 400 ∧ ∀ i, i < T.1 → tbx i = T.2 i
def sp_rfail : Sp := (0, 0, 0, pRd, fun as σ K => ∃ (tbx f s t nu : Nat → Int32) (tz ra rf rt : Int32) (p h : Nat), as = [.ref 0, .int (iI (p : Int)), .int (iI (h : Int))] ∧ σ = (wRd tbx tz f s t nu ra rf rt) ∧ K none (some (wRd tbx tz f s t nu ra (iI ((8 * p + h : Nat) : Int)) rt)))
set_option maxRecDepth 20000 in
theorem v_rfail (l : Launch) : z_V l 20 sp_rfail := by
  refine z_V.ofP (by decide +kernel) ?_
  rintro as σ K Post ⟨tbx, f, s, t, nu, tz, ra, rf, rt, p, h, rfl, rfl, hK⟩ hP1 hP0
  have e : z_nn 8 0 * iI (p : Int) + iI (h : Int) = iI ((8 * p + h : Nat) : Int) := by rw [zn_i, iI_mul, iI_add]; rfl
  rw [← e] at hK
  refine AW.go (bs := b_Reader_fail) [] 60 t_Reader_fail ?_
  exact hP1 _ _ hK
def sp_skip : Sp := (1, 0, 0, pRd, fun as σ K => ∃ (tbx f s t nu : Nat → Int32) (rf rt : Int32) (T : Tp) (a : Nat), as = [.ref 0] ∧ σ = (wRd tbx (iI (T.1 : Int)) f s t nu (iI (a : Int)) rf rt) ∧ TB T tbx ∧ a ≤ T.1 ∧ K none (some (wRd tbx (iI (T.1 : Int)) f s t nu (iI ((sk T a : Nat) : Int)) rf rt)))
set_option maxRecDepth 20000 in
theorem v_skip (l : Launch) : z_V l 21 sp_skip := by
  refine z_V.ofP (by decide +kernel) ?_
  rintro as σ K Post ⟨tbx, f, s, t, nu, rf, rt, T, a, rfl, rfl, ⟨h4, hB⟩, ha, hK⟩ hP1 hP0
  have loop : ∀ (n x : Nat) (ra : Int32), n = T.1 - x → a ≤ x → x ≤ T.1 → (∀ i, a ≤ i → i < x → isB T i = true) → ra = iI (x : Int) →
      AW l 21 1 0 0 8 none Post 0 [some (.ref 0)] [] (wRd tbx (iI (T.1 : Int)) f s t nu ra rf rt) 0 0 := by
    intro n
    induction n using Nat.strongRecOn with
    | ind n ih =>
      intro x ra hn hx1 hx2 hb hra
      subst hra
      refine AW.go (bs := b_Reader_skipBlanks) [0] 60 t_Reader_skipBlanks ?_
      refine And.intro (fun h => ?_) (fun h => ?_)
      · rw [zc_ge (by omega) (by omega) (by omega) (by omega)] at h
        have e : sk T a = x := run_eq hx1 (by omega) hb (isB_out _ (by omega))
        rw [e] at hK
        exact hP1 _ _ hK
      rw [zc_ge (by omega) (by omega) (by omega) (by omega)] at h
      refine ⟨_, v_byteAt l, by decide, tbx, T.2, T.1, (x : Int), rfl, rfl, h4, ⟨by omega, by omega⟩, hB, ?_⟩
      have hr := tb_rng T x
      unfold tbt at hr
      refine And.intro (fun h2 => ?_) (fun h2 => ?_)
      · rw [zn_i, zc_ne (by omega) (by omega) (by omega) (by omega)] at h2
        have e : sk T a = x := run_eq hx1 (by omega) hb (decide_eq_false h2)
        rw [e] at hK
        exact hP1 _ _ hK
      · rw [zn_i, zc_ne (by omega) (by omega) (by omega) (by omega), Classical.not_not] at h2
        refine ih _ (by omega) (x + 1) _ rfl (by omega) (by omega) (fun i h3 h5 => ?_) (zn_inc _)
        by_cases q : i = x
        · subst q; exact decide_eq_true h2
        · exact hb i h3 (by omega)
  exact loop _ a _ rfl (Nat.le_refl _) ha (fun i h1 h2 => by omega) rfl
def sp_wlen : Sp := (1, 0, 0, pRd, fun as σ K => ∃ (tbx f s t nu : Nat → Int32) (rf rt : Int32) (T : Tp) (a : Nat), as = [.ref 0] ∧ σ = (wRd tbx (iI (T.1 : Int)) f s t nu (iI (a : Int)) rf rt) ∧ TB T tbx ∧ a ≤ T.1 ∧ K (some (.int (iI ((wl T a : Nat) : Int)))) none)
set_option maxRecDepth 20000 in
theorem v_wlen (l : Launch) : z_V l 24 sp_wlen := by
  refine z_V.ofP (by decide +kernel) ?_
  rintro as σ K Post ⟨tbx, f, s, t, nu, rf, rt, T, a, rfl, rfl, ⟨h4, hB⟩, ha, hK⟩ hP1 hP0
  have fin : ∀ x, we T a = x → a ≤ x → Post (some (.int (iI (x : Int) - iI (a : Int)))) (wRd tbx (iI (T.1 : Int)) f s t nu (iI (a : Int)) rf rt) := by
    intro x hx hax
    have e : iI (x : Int) - iI (a : Int) = iI ((wl T a : Nat) : Int) := by rw [iI_sub]; congr 1; unfold wl; omega
    rw [e]
    exact hP0 _ hK
  have loop : ∀ (n x : Nat) (y : Int32), n = T.1 - x → a ≤ x → x ≤ T.1 → (∀ i, a ≤ i → i < x → isLt T i = true) → y = iI (x : Int) →
      AW l 24 1 0 0 8 none Post 5 [some (.ref 0), some (.int y)] [] (wRd tbx (iI (T.1 : Int)) f s t nu (iI (a : Int)) rf rt) 0 0 := by
    intro n
    induction n using Nat.strongRecOn with
    | ind n ih =>
      intro x y hn hx1 hx2 hb hy
      subst hy
      have hr := tb_rng T x
      unfold tbt at hr
      refine AW.go (bs := b_Reader_wordLength) [5] 60 t_Reader_wordLength ?_
      refine And.intro (fun h => ?_) (fun h => ?_)
      · rw [zc_ge (by omega) (by omega) (by omega) (by omega)] at h
        exact fin x (run_eq hx1 (by omega) hb (isLt_out _ (by omega))) hx1
      rw [zc_ge (by omega) (by omega) (by omega) (by omega)] at h
      refine ⟨_, v_byteAt l, by decide, tbx, T.2, T.1, (x : Int), rfl, rfl, h4, ⟨by omega, by omega⟩, hB, ?_⟩
      refine And.intro (fun h2 => ?_) (fun h2 => ?_)
      · rw [zn_i, zc_lt (by omega) (by omega) (by omega) (by omega)] at h2
        exact fin x (run_eq hx1 (by omega) hb (decide_eq_false (fun q => by have : 97 ≤ byI T.1 T.2 (x : Int) := q.1; omega))) hx1
      rw [zn_i, zc_lt (by omega) (by omega) (by omega) (by omega)] at h2
      refine ⟨_, v_byteAt l, by decide, tbx, T.2, T.1, (x : Int), rfl, rfl, h4, ⟨by omega, by omega⟩, hB, ?_⟩
      refine And.intro (fun h3 => ?_) (fun h3 => ?_)
      · rw [zn_i, zc_gt (by omega) (by omega) (by omega) (by omega)] at h3
        exact fin x (run_eq hx1 (by omega) hb (decide_eq_false (fun q => by have : byI T.1 T.2 (x : Int) ≤ 122 := q.2; omega))) hx1
      · rw [zn_i, zc_gt (by omega) (by omega) (by omega) (by omega)] at h3
        refine ih _ (by omega) (x + 1) _ rfl (by omega) (by omega) (fun i h5 h6 => ?_) (zn_inc _)
        by_cases q : i = x
        · subst q; exact decide_eq_true (show 97 ≤ byI T.1 T.2 (i : Int) ∧ byI T.1 T.2 (i : Int) ≤ 122 by omega)
        · exact hb i h5 (by omega)
  refine AW.go (bs := b_Reader_wordLength) [5] 60 t_Reader_wordLength ?_
  exact loop _ a _ rfl (Nat.le_refl _) ha (fun i h1 h2 => by omega) rfl
set_option maxRecDepth 20000 in
theorem rword_start (l : Launch) {Post : Option Value → List AE → Prop} {tbx f s t nu : Nat → Int32} {tz ra rf rt : Int32} {i L : Nat} (hi : i < 19) (hL : L ≤ 400) (h0 : sln i ≠ L → Post (some (.int (iI 0))) (wRd tbx tz f s t nu ra rf rt)) (h1 : sln i = L → AW l 26 4 0 0 8 none Post 12 [some (.ref 0), some (.ref (i + 2000)), some (.int (iI (L : Int))), some (.int (z_nn 0 0))] [] (wRd tbx tz f s t nu ra rf rt) 0 0) :
    AW l 26 4 0 0 8 none Post 0 [some (.ref 0), some (.ref (i + 2000)), some (.int (iI (L : Int))), none] [] (wRd tbx tz f s t nu ra rf rt) 0 0 := by
  have hs := sln_le hi
  rcases d19 hi with rfl | rfl | rfl | rfl | rfl | rfl | rfl | rfl | rfl | rfl | rfl | rfl | rfl | rfl | rfl | rfl | rfl | rfl | rfl <;>
  · refine AW.go (bs := b_Reader_isWord) [12] 60 t_Reader_isWord ?_
    refine ⟨_, v_slen l, by decide, _, rfl, by decide, rfl, ?_⟩
    refine And.intro (fun h => ?_) (fun h => ?_)
    · rw [zc_eq (by omega) (by omega) (by omega) (by omega)] at h
      exact h1 (by omega)
    · rw [zc_eq (by omega) (by omega) (by omega) (by omega)] at h
      exact And.intro (Or.inl rfl) (h0 (by omega))
set_option maxRecDepth 20000 in
theorem rword_step (l : Launch) {Post : Option Value → List AE → Prop} {tbx f s t nu : Nat → Int32} {rf rt : Int32} {T : Tp} {a i k L : Nat} (hT : TB T tbx) (ha : a ≤ T.1) (hi : i < 19) (hL : sln i = L) (hk : k ≤ L) (h0 : k = L → Post (some (.int (iI 1))) (wRd tbx (iI (T.1 : Int)) f s t nu (iI (a : Int)) rf rt)) (h1 : k < L → tbt T (a + k) = (chr i k : Nat) → AW l 26 4 0 0 8 none Post 12 [some (.ref 0), some (.ref (i + 2000)), some (.int (iI (L : Int))), some (.int (iI (k : Int) + z_nn 1 0))] [] (wRd tbx (iI (T.1 : Int)) f s t nu (iI (a : Int)) rf rt) 0 0) (h2 : k < L → tbt T (a + k) ≠ (chr i k : Nat) → Post (some (.int (iI 0))) (wRd tbx (iI (T.1 : Int)) f s t nu (iI (a : Int)) rf rt)) :
    AW l 26 4 0 0 8 none Post 12 [some (.ref 0), some (.ref (i + 2000)), some (.int (iI (L : Int))), some (.int (iI (k : Int)))] [] (wRd tbx (iI (T.1 : Int)) f s t nu (iI (a : Int)) rf rt) 0 0 := by
  obtain ⟨h4, hB⟩ := hT
  have hs := sln_le hi
  have hc := chr_lt i k
  have ea : iI (a : Int) + iI (k : Int) = iI ((a + k : Nat) : Int) := by rw [iI_add]; rfl
  have hr := tb_rng T (a + k)
  unfold tbt at hr h1 h2
  subst hL
  rcases d19 hi with rfl | rfl | rfl | rfl | rfl | rfl | rfl | rfl | rfl | rfl | rfl | rfl | rfl | rfl | rfl | rfl | rfl | rfl | rfl <;>
  · refine AW.go (bs := b_Reader_isWord) [12] 60 t_Reader_isWord ?_
    refine And.intro (fun h => ?_) (fun h => ?_)
    · rw [zc_ge (by omega) (by omega) (by omega) (by omega)] at h
      exact And.intro (Or.inr rfl) (h0 (by omega))
    rw [zc_ge (by omega) (by omega) (by omega) (by omega)] at h
    show ∃ sp : Sp, _
    rw [ea]
    refine ⟨_, v_byteAt l, by decide, tbx, T.2, T.1, ((a + k : Nat) : Int), rfl, rfl, h4, ⟨by omega, by omega⟩, hB, ?_⟩
    refine ⟨_, v_char l, by decide, _, k, rfl, by decide, by omega, rfl, ?_⟩
    refine And.intro (fun h3 => ?_) (fun h3 => ?_)
    · rw [zc_eq (by omega) (by omega) (by omega) (by omega)] at h3
      exact h1 (by omega) h3
    · rw [zc_eq (by omega) (by omega) (by omega) (by omega)] at h3
      exact And.intro (Or.inl rfl) (h2 (by omega) h3)
def isWL (T : Tp) (a i L : Nat) : Bool := decide (sln i = L ∧ ∀ k, k < L → tbt T (a + k) = (chr i k : Nat))
def sp_rword : Sp := (4, 0, 0, pRd, fun as σ K => ∃ (tbx f s t nu : Nat → Int32) (rf rt : Int32) (T : Tp) (a i L : Nat), as = [.ref 0, .ref (i + 2000), .int (iI (L : Int))] ∧ σ = (wRd tbx (iI (T.1 : Int)) f s t nu (iI (a : Int)) rf rt) ∧ TB T tbx ∧ a ≤ T.1 ∧ i < 19 ∧ L ≤ 400 ∧ K (some (.int (bI (isWL T a i L)))) none)
set_option maxRecDepth 20000 in
theorem v_rword (l : Launch) : z_V l 26 sp_rword := by
  refine z_V.ofP (by decide +kernel) ?_
  rintro as σ K Post ⟨tbx, f, s, t, nu, rf, rt, T, a, i, L, rfl, rfl, hT, ha, hi, hL, hK⟩ hP1 hP0
  unfold isWL at hK
  have start : AW l 26 4 0 0 8 none Post 0 [some (.ref 0), some (.ref (i + 2000)), some (.int (iI (L : Int))), none] [] (wRd tbx (iI (T.1 : Int)) f s t nu (iI (a : Int)) rf rt) 0 0 := by
    refine rword_start l hi hL (fun h => ?_) (fun h => ?_)
    · rw [decide_eq_false (fun q => h q.1)] at hK
      exact hP0 _ hK
    have loop : ∀ (n k : Nat) (x : Int32), n = L - k → k ≤ L → x = iI (k : Int) → (∀ j, j < k → tbt T (a + j) = (chr i j : Nat)) → AW l 26 4 0 0 8 none Post 12 [some (.ref 0), some (.ref (i + 2000)), some (.int (iI (L : Int))), some (.int x)] [] (wRd tbx (iI (T.1 : Int)) f s t nu (iI (a : Int)) rf rt) 0 0 := by
      intro n
      induction n with
      | zero =>
        intro k x hn hk hx hj
        subst hx
        have ek : k = L := by omega
        subst ek
        refine rword_step l hT ha hi h (Nat.le_refl _) (fun _ => ?_) (fun q => by omega) (fun q => by omega)
        rw [decide_eq_true ⟨h, hj⟩] at hK
        exact hP0 _ hK
      | succ n ih =>
        intro k x hn hk hx hj
        subst hx
        refine rword_step l hT ha hi h hk (fun q => by omega) (fun q e => ?_) (fun q e => ?_)
        · refine ih (k + 1) _ (by omega) (by omega) (zn_inc _) (fun j hj2 => ?_)
          by_cases e2 : j = k
          · subst e2; exact e
          · exact hj j (by omega)
        · rw [decide_eq_false (fun r => e (r.2 k q))] at hK
          exact hP0 _ hK
    exact loop _ 0 _ rfl (by omega) rfl (fun j hj => by omega)
  exact start
set_option maxRecDepth 20000 in
theorem isWL_eq (T : Tp) (a i : Nat) : isWL T a i (wl T a) = isWd T a i := by
  unfold isWL isWd
  by_cases h : sln i = wl T a
  · rw [h]
  · rw [decide_eq_false (fun q => h q.1), decide_eq_false (fun q => h q.1.symm)]
def ptI (o : Option Nat) : Int := match o with
  | some p => (p : Int)
  | none => -1
set_option maxRecDepth 20000 in
theorem rpart_step (l : Launch) {Post : Option Value → List AE → Prop} {tbx f s t nu : Nat → Int32} {rf rt : Int32} {T : Tp} {a p : Nat} (hT : TB T tbx) (ha : a ≤ T.1) (hp : p < 9) (h0 : 0 < wl T a → isWd T a (wrd p) = true → Post (some (.int (iI (p : Int)))) (wRd tbx (iI (T.1 : Int)) f s t nu (iI (a : Int)) rf rt)) (h1 : ¬ (0 < wl T a ∧ isWd T a (wrd p) = true) → AW l 25 5 0 0 8 none Post 2 [some (.ref 0), some (.int (iI ((wl T a : Nat) : Int))), some (.int (iI (p : Int) + z_nn 1 0))] [] (wRd tbx (iI (T.1 : Int)) f s t nu (iI (a : Int)) rf rt) 0 0) :
    AW l 25 5 0 0 8 none Post 2 [some (.ref 0), some (.int (iI ((wl T a : Nat) : Int))), some (.int (iI (p : Int)))] [] (wRd tbx (iI (T.1 : Int)) f s t nu (iI (a : Int)) rf rt) 0 0 := by
  have hw := we_rng ha
  have hwl : wl T a ≤ 400 := by unfold wl; have := hT.1; omega
  rcases d9 hp with rfl | rfl | rfl | rfl | rfl | rfl | rfl | rfl | rfl <;>
  · refine AW.go (bs := b_Reader_partNamed) [2] 60 t_Reader_partNamed ?_
    refine And.intro (fun h => absurd h (by first | decide | (rw [zd_iff]; decide))) (fun _ => ?_)
    refine And.intro (fun h => ?_) (fun h => ?_)
    · rw [zc_le0 (by omega) (by omega)] at h
      exact h1 (fun q => by omega)
    rw [zc_le0 (by omega) (by omega)] at h
    refine ⟨_, v_wordOf l, by decide, _, rfl, hp, rfl, ?_⟩
    refine ⟨_, v_rword l, by decide, tbx, f, s, t, nu, rf, rt, T, a, _, wl T a, rfl, rfl, hT, ha, by decide, hwl, ?_⟩
    show _ ∧ _
    rw [isWL_eq]
    refine And.intro (fun h2 => ?_) (fun h2 => ?_)
    · rw [zc_beq] at h2
      exact h1 (fun q => by have := q.2; rw [show isWd T a (wrd _) = false from h2] at this; cases this)
    · rw [zc_beq, Bool.not_eq_false] at h2
      exact h0 (by omega) h2
def sp_partNamed : Sp := (5, 0, 0, pRd, fun as σ K => ∃ (tbx f s t nu : Nat → Int32) (rf rt : Int32) (T : Tp) (a : Nat), as = [.ref 0, .int (iI ((wl T a : Nat) : Int))] ∧ σ = (wRd tbx (iI (T.1 : Int)) f s t nu (iI (a : Int)) rf rt) ∧ TB T tbx ∧ a ≤ T.1 ∧ K (some (.int (iI (ptI (partAt T a))))) none)
set_option maxRecDepth 20000 in
theorem v_partNamed (l : Launch) : z_V l 25 sp_partNamed := by
  refine z_V.ofP (by decide +kernel) ?_
  rintro as σ K Post ⟨tbx, f, s, t, nu, rf, rt, T, a, rfl, rfl, hT, ha, hK⟩ hP1 hP0
  have loop : ∀ (n p : Nat) (x : Int32), n = 9 - p → p ≤ 9 → x = iI (p : Int) → (∀ q, q < p → ¬ (0 < wl T a ∧ isWd T a (wrd q) = true)) → AW l 25 5 0 0 8 none Post 2 [some (.ref 0), some (.int (iI ((wl T a : Nat) : Int))), some (.int x)] [] (wRd tbx (iI (T.1 : Int)) f s t nu (iI (a : Int)) rf rt) 0 0 := by
    intro n
    induction n with
    | zero =>
      intro p x hn hp hx hq
      subst hx
      have ep : p = 9 := by omega
      subst ep
      refine AW.go (bs := b_Reader_partNamed) [2] 60 t_Reader_partNamed ?_
      refine And.intro (fun _ => ?_) (fun h => absurd (show z_cond .ge (iI ((9 : Nat) : Int)) (z_nn 9 0) by first | decide | (rw [zd_iff]; decide)) h)
      rw [partAt_none (fun p hp h0 => by have := hq p hp; simpa [h0] using this)] at hK
      exact hP0 _ hK
    | succ n ih =>
      intro p x hn hp hx hq
      subst hx
      refine rpart_step l hT ha (by omega) (fun h0 h1 => ?_) (fun h => ?_)
      · rw [partAt_some (by omega) h0 h1] at hK
        exact hP0 _ hK
      · refine ih (p + 1) _ (by omega) (by omega) (zn_inc _) (fun q hq2 => ?_)
        by_cases e : q = p
        · subst e; exact h
        · exact hq q (by omega)
  refine AW.go (bs := b_Reader_partNamed) [2] 60 t_Reader_partNamed ?_
  exact loop _ 0 _ rfl (by omega) rfl (fun q hq => by omega)
def sp_isTold : Sp := (1, 0, 0, pRd, fun as σ K => ∃ (tbx f s t nu : Nat → Int32) (tz ra rf : Int32) (D : Od) (told p : Nat), as = [.ref 0, .int (iI (p : Int))] ∧ σ = (wRd tbx tz f s t nu ra rf (iI (told : Int))) ∧ RS f s t D ∧ p < 9 ∧ told < 8 ∧ K (some (.int (bI (fullP D told p)))) none)
set_option maxRecDepth 20000 in
theorem v_isTold (l : Launch) : z_V l 27 sp_isTold := by
  refine z_V.ofP (by decide +kernel) ?_
  rintro as σ K Post ⟨tbx, f, s, t, nu, tz, ra, rf, D, told, p, rfl, rfl, hR, hp, ht, hK⟩ hP1 hP0
  unfold fullP at hK
  refine AW.go (bs := b_Reader_isTold) [] 60 t_Reader_isTold ?_
  refine And.symm (And.intro (fun h => ?_) (fun h => ?_))
  · rw [zn_i, zc_ge (by omega) (by omega) (by omega) (by omega)] at h
    rw [if_pos (by omega)] at hK
    refine ⟨_, v_isFull l, by decide, f, s, t, rfl, D, p, rfl, hR, by omega, ?_⟩
    exact And.intro (bI_01 _) (hP0 _ hK)
  · rw [zn_i, zc_ge (by omega) (by omega) (by omega) (by omega)] at h
    rw [if_neg (by omega)] at hK
    have e6 : iI (p : Int) - z_nn 6 0 = iI ((p - 6 : Nat) : Int) := by rw [zn_i, iI_sub]; congr 1; omega
    show ∃ sp : Sp, _
    rw [e6]
    refine ⟨_, v_isIn l, by decide, rfl, told, p - 6, rfl, by omega, by omega, ?_⟩
    exact And.intro (bI_01 _) (hP0 _ hK)
def sp_signs : Sp := (0, 0, 0, [], fun as σ K => ∃ p : Nat, as = [.int (iI (p : Int))] ∧ p < 9 ∧ σ = [] ∧ K (some (.ref (sgn p + 2000))) none)
set_option maxRecDepth 20000 in
theorem v_signs (l : Launch) : z_V l 28 sp_signs := by
  refine z_V.ofP (by decide +kernel) ?_
  rintro as σ K Post ⟨p, rfl, hp, rfl, hK⟩ hP1 hP0
  have ex : ∀ x : Int, 0 ≤ x → x ≤ 20 → iI (p : Int) = Int32.ofInt x → (p : Int) = x := fun x h0 h1 e => (iI_inj (by omega) (by omega) (by omega) (by omega)).mp e
  refine AW.go (bs := b_Reader_signsOf) [] 60 t_Reader_signsOf ?_
  refine And.intro (fun h => ?_) ⟨fun h => ?_, fun h => ?_, fun h => ?_, fun h => ?_, fun h => ?_, fun h => ?_, fun h => ?_, fun h => ?_, fun h => ?_, trivial⟩
  · rw [iI_toInt (by omega) (by omega)] at h; omega
  · have h := ex 0 (by omega) (by omega) h
    have : p = 0 := by omega
    subst this
    exact hP0 _ hK
  · have h := ex 1 (by omega) (by omega) h
    have : p = 1 := by omega
    subst this
    exact hP0 _ hK
  · have h := ex 2 (by omega) (by omega) h
    have : p = 2 := by omega
    subst this
    exact hP0 _ hK
  · have h := ex 3 (by omega) (by omega) h
    have : p = 3 := by omega
    subst this
    exact hP0 _ hK
  · have h := ex 4 (by omega) (by omega) h
    have : p = 4 := by omega
    subst this
    exact hP0 _ hK
  · have h := ex 5 (by omega) (by omega) h
    have : p = 5 := by omega
    subst this
    exact hP0 _ hK
  · have h := ex 6 (by omega) (by omega) h
    have : p = 6 := by omega
    subst this
    exact hP0 _ hK
  · have h := ex 7 (by omega) (by omega) h
    have : p = 7 := by omega
    subst this
    exact hP0 _ hK
  · have h := ex 8 (by omega) (by omega) h
    have : p = 8 := by omega
    subst this
    exact hP0 _ hK
def sgs (g : Nat) : Prop := g = 117 ∨ g = 112 ∨ g = 110 ∨ g = 116 ∨ g = 102 ∨ g = 100 ∨ g = 108 ∨ g = 118 ∨ g = 119 ∨ g = 99 ∨ g = 105
def sp_fits : Sp := (0, 0, 0, pRd, fun as σ K => ∃ (tbx f s t nu : Nat → Int32) (tz ra rf rt : Int32) (D : Od) (g : Nat) (v b : Int), as = [.ref 0, .int (iI (g : Int)), .int (iI v), .int (iI b)] ∧ σ = (wRd tbx tz f s t nu ra rf rt) ∧ RS f s t D ∧ sgs g ∧ ir v ∧ ir b ∧ K (some (.int (bI (ft (D.1 4) g b v)))) none)
set_option maxRecDepth 20000 in
theorem v_fits (l : Launch) : z_V l 29 sp_fits := by
  refine z_V.ofP (by decide +kernel) ?_
  rintro as σ K Post ⟨tbx, f, s, t, nu, tz, ra, rf, rt, D, g, v, b, rfl, rfl, hR, hg, ⟨v1, v2⟩, ⟨b1, b2⟩, hK⟩ hP1 hP0
  have hs := hR.size 4 (by omega)
  have hm := hR.max40 4 (by omega)
  have hg2 : g ≤ 200 := by unfold sgs at hg; omega
  have ex : ∀ x : Int, 0 ≤ x → x ≤ 200 → iI (g : Int) = Int32.ofInt x → (g : Int) = x := fun x h0 h1 e => (iI_inj (by omega) (by omega) (by omega) (by omega)).mp e
  unfold sgs at hg
  refine AW.go (bs := b_Reader_fits) [] 60 t_Reader_fits ?_
  refine And.intro (fun h => ?_) ⟨fun h => ?_, fun h => ?_, fun h => ?_, fun h => ?_, fun h => ?_, fun h => ?_, fun h => ?_, fun h => ?_, fun h => ?_, fun h => ?_, fun h => ?_, fun h => ?_, fun h => ?_, fun h => ?_, fun h => ?_, fun h => ?_, fun h => ?_, fun h => ?_, fun h => ?_, fun h => ?_, fun h => ?_, trivial⟩
  · exfalso; rw [iI_toInt (by omega) (by omega)] at h; omega
  · have h := ex 99 (by omega) (by omega) h
    have hgk : g = 99 := by omega
    subst hgk
    have hf : ft (D.1 4) 99 b v = decide (v ≤ 9) := rfl
    rw [hf] at hK
    refine And.intro (by first | decide | exact zn_in (by decide) (by omega)) ?_
    have e5 : nI ([99, 9, 30].getD (z_nn 1 0).toNatClampNeg 0) = iI 9 := by decide
    show _ ∧ _
    rw [e5]
    refine And.intro (fun h2 => ?_) (fun h2 => ?_)
    · rw [zc_gt v1 v2 (by omega) (by omega)] at h2
      rw [decide_eq_false (by omega)] at hK
      exact And.intro (Or.inl rfl) (hP0 _ hK)
    · rw [zc_gt v1 v2 (by omega) (by omega)] at h2
      rw [decide_eq_true (by omega)] at hK
      exact And.intro (Or.inr rfl) (hP0 _ hK)
  · have h := ex 100 (by omega) (by omega) h
    have hgk : g = 100 := by omega
    subst hgk
    have hf : ft (D.1 4) 100 b v = decide (v < 1000 ∧ b ≤ v) := rfl
    rw [hf] at hK
    refine And.intro (fun h2 => ?_) (fun h2 => ?_)
    · rw [zn_i, zc_ge v1 v2 (by omega) (by omega)] at h2
      rw [decide_eq_false (by omega)] at hK
      exact And.intro (Or.inl rfl) (hP0 _ hK)
    rw [zn_i, zc_ge v1 v2 (by omega) (by omega)] at h2
    refine And.intro (fun h3 => ?_) (fun h3 => ?_)
    · rw [zc_lt v1 v2 b1 b2] at h3
      rw [decide_eq_false (by omega)] at hK
      exact And.intro (Or.inl rfl) (hP0 _ hK)
    · rw [zc_lt v1 v2 b1 b2] at h3
      rw [decide_eq_true (by omega)] at hK
      exact And.intro (Or.inr rfl) (hP0 _ hK)
  · exfalso; have h := ex 101 (by omega) (by omega) h; omega
  · have h := ex 102 (by omega) (by omega) h
    have hgk : g = 102 := by omega
    subst hgk
    have hf : ft (D.1 4) 102 b v = decide (v < 1000) := rfl
    rw [hf] at hK
    refine And.intro (fun h2 => ?_) (fun h2 => ?_)
    · rw [zn_i, zc_ge v1 v2 (by omega) (by omega)] at h2
      rw [decide_eq_false (by omega)] at hK
      exact And.intro (Or.inl rfl) (hP0 _ hK)
    · rw [zn_i, zc_ge v1 v2 (by omega) (by omega)] at h2
      rw [decide_eq_true (by omega)] at hK
      exact And.intro (Or.inr rfl) (hP0 _ hK)
  · exfalso; have h := ex 103 (by omega) (by omega) h; omega
  · exfalso; have h := ex 104 (by omega) (by omega) h; omega
  · have h := ex 105 (by omega) (by omega) h
    have hgk : g = 105 := by omega
    subst hgk
    have hf : ft (D.1 4) 105 b v = decide (v ≤ 30) := rfl
    rw [hf] at hK
    refine And.intro (by first | decide | exact zn_in (by decide) (by omega)) ?_
    have e5 : nI ([99, 9, 30].getD (z_nn 2 0).toNatClampNeg 0) = iI 30 := by decide
    show _ ∧ _
    rw [e5]
    refine And.intro (fun h2 => ?_) (fun h2 => ?_)
    · rw [zc_gt v1 v2 (by omega) (by omega)] at h2
      rw [decide_eq_false (by omega)] at hK
      exact And.intro (Or.inl rfl) (hP0 _ hK)
    · rw [zc_gt v1 v2 (by omega) (by omega)] at h2
      rw [decide_eq_true (by omega)] at hK
      exact And.intro (Or.inr rfl) (hP0 _ hK)
  · exfalso; have h := ex 106 (by omega) (by omega) h; omega
  · exfalso; have h := ex 107 (by omega) (by omega) h; omega
  · have h := ex 108 (by omega) (by omega) h
    have hgk : g = 108 := by omega
    subst hgk
    have hf : ft (D.1 4) 108 b v = decide (v ≤ 9999) := rfl
    rw [hf] at hK
    refine And.intro (fun h2 => ?_) (fun h2 => ?_)
    · rw [zn_i, zc_gt v1 v2 (by omega) (by omega)] at h2
      rw [decide_eq_false (by omega)] at hK
      exact And.intro (Or.inl rfl) (hP0 _ hK)
    · rw [zn_i, zc_gt v1 v2 (by omega) (by omega)] at h2
      rw [decide_eq_true (by omega)] at hK
      exact And.intro (Or.inr rfl) (hP0 _ hK)
  · exfalso; have h := ex 109 (by omega) (by omega) h; omega
  · have h := ex 110 (by omega) (by omega) h
    have hgk : g = 110 := by omega
    subst hgk
    have hf : ft (D.1 4) 110 b v = decide (v < 16) := rfl
    rw [hf] at hK
    refine And.intro (fun h2 => ?_) (fun h2 => ?_)
    · rw [zn_i, zc_ge v1 v2 (by omega) (by omega)] at h2
      rw [decide_eq_false (by omega)] at hK
      exact And.intro (Or.inl rfl) (hP0 _ hK)
    · rw [zn_i, zc_ge v1 v2 (by omega) (by omega)] at h2
      rw [decide_eq_true (by omega)] at hK
      exact And.intro (Or.inr rfl) (hP0 _ hK)
  · exfalso; have h := ex 111 (by omega) (by omega) h; omega
  · have h := ex 112 (by omega) (by omega) h
    have hgk : g = 112 := by omega
    subst hgk
    have hf : ft (D.1 4) 112 b v = decide (v < (D.1 4 : Nat)) := rfl
    rw [hf] at hK
    refine And.intro (by first | decide | exact zn_in (by decide) (by omega)) ?_
    show _ ∧ _
    rw [zn_cl (by omega), hs]
    refine And.intro (fun h2 => ?_) (fun h2 => ?_)
    · rw [zc_ge v1 v2 (by omega) (by omega)] at h2
      rw [decide_eq_false (by omega)] at hK
      exact And.intro (Or.inl rfl) (hP0 _ hK)
    · rw [zc_ge v1 v2 (by omega) (by omega)] at h2
      rw [decide_eq_true (by omega)] at hK
      exact And.intro (Or.inr rfl) (hP0 _ hK)
  · exfalso; have h := ex 113 (by omega) (by omega) h; omega
  · exfalso; have h := ex 114 (by omega) (by omega) h; omega
  · exfalso; have h := ex 115 (by omega) (by omega) h; omega
  · have h := ex 116 (by omega) (by omega) h
    have hgk : g = 116 := by omega
    subst hgk
    have hf : ft (D.1 4) 116 b v = decide (v < 16 ∧ v ≠ b) := rfl
    rw [hf] at hK
    refine And.intro (fun h2 => ?_) (fun h2 => ?_)
    · rw [zn_i, zc_ge v1 v2 (by omega) (by omega)] at h2
      rw [decide_eq_false (by omega)] at hK
      exact And.intro (Or.inl rfl) (hP0 _ hK)
    rw [zn_i, zc_ge v1 v2 (by omega) (by omega)] at h2
    refine And.intro (fun h3 => ?_) (fun h3 => ?_)
    · rw [zc_eq v1 v2 b1 b2] at h3
      rw [decide_eq_false (by omega)] at hK
      exact And.intro (Or.inl rfl) (hP0 _ hK)
    · rw [zc_eq v1 v2 b1 b2] at h3
      rw [decide_eq_true (by omega)] at hK
      exact And.intro (Or.inr rfl) (hP0 _ hK)
  · have h := ex 117 (by omega) (by omega) h
    have hgk : g = 117 := by omega
    subst hgk
    have hf : ft (D.1 4) 117 b v = decide (v < (D.1 4 : Nat)) := rfl
    rw [hf] at hK
    refine And.intro (by first | decide | exact zn_in (by decide) (by omega)) ?_
    show _ ∧ _
    rw [zn_cl (by omega), hs]
    refine And.intro (fun h2 => ?_) (fun h2 => ?_)
    · rw [zc_ge v1 v2 (by omega) (by omega)] at h2
      rw [decide_eq_false (by omega)] at hK
      exact And.intro (Or.inl rfl) (hP0 _ hK)
    · rw [zc_ge v1 v2 (by omega) (by omega)] at h2
      rw [decide_eq_true (by omega)] at hK
      exact And.intro (Or.inr rfl) (hP0 _ hK)
  · have h := ex 118 (by omega) (by omega) h
    have hgk : g = 118 := by omega
    subst hgk
    have hf : ft (D.1 4) 118 b v = decide (v < 10) := rfl
    rw [hf] at hK
    refine And.intro (fun h2 => ?_) (fun h2 => ?_)
    · rw [zn_i, zc_ge v1 v2 (by omega) (by omega)] at h2
      rw [decide_eq_false (by omega)] at hK
      exact And.intro (Or.inl rfl) (hP0 _ hK)
    · rw [zn_i, zc_ge v1 v2 (by omega) (by omega)] at h2
      rw [decide_eq_true (by omega)] at hK
      exact And.intro (Or.inr rfl) (hP0 _ hK)
  · have h := ex 119 (by omega) (by omega) h
    have hgk : g = 119 := by omega
    subst hgk
    have hf : ft (D.1 4) 119 b v = decide (v ≤ 99) := rfl
    rw [hf] at hK
    refine And.intro (by first | decide | exact zn_in (by decide) (by omega)) ?_
    have e5 : nI ([99, 9, 30].getD (z_nn 0 0).toNatClampNeg 0) = iI 99 := by decide
    show _ ∧ _
    rw [e5]
    refine And.intro (fun h2 => ?_) (fun h2 => ?_)
    · rw [zc_gt v1 v2 (by omega) (by omega)] at h2
      rw [decide_eq_false (by omega)] at hK
      exact And.intro (Or.inl rfl) (hP0 _ hK)
    · rw [zc_gt v1 v2 (by omega) (by omega)] at h2
      rw [decide_eq_true (by omega)] at hK
      exact And.intro (Or.inr rfl) (hP0 _ hK)
