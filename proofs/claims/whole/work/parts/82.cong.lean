/-! orders that differ in their requests alone -/
def sameO (M M' : Od) : Prop := M'.1 = M.1 ∧ M'.2.2 = M.2.2 ∧ ∀ d k c, d < 5 → M'.2.1 d k c = M.2.1 d k c
theorem sameO_put (M : Od) (k c : Nat) (v : Int) : sameO M (oPut M 5 k c v) := ⟨rfl, rfl, fun d i y hd => by show (if d = 5 ∧ i = k ∧ y = c then v else M.2.1 d i y) = _; rw [if_neg (by omega)]⟩
theorem cov_same {M M' : Od} (h : sameO M M') {d : Nat} (hd : d < 5) (k : Nat) (y : Int) : cov M' d k y = cov M d k y := by
  unfold cov; rw [h.2.2 _ _ _ hd, h.2.2 _ _ _ hd]
theorem holder_same {M M' : Od} (h : sameO M M') (p y : Int) : holder M' p y = holder M p y := by
  unfold holder
  rw [h.1]
  have e : hold1 M' p y = hold1 M p y := by
    funext k; unfold hold1; rw [h.2.2 0 k 0 (by omega), cov_same h (by omega)]
  rw [e]
  split
  · exact h.2.2 0 _ 1 (by omega)
  · rfl
theorem awB_same {M M' : Od} (h : sameO M M') (m : Mt) (y : Int) : awB M' m y = awB M m y := by
  unfold awB awayM
  rw [h.1]
  have e1 : aw1 M' (mL m) y = aw1 M (mL m) y := by funext k; unfold aw1; rw [cov_same h (by omega)]
  have e2 : (fun k => (M'.2.1 1 k 0).toNat) = (fun k => (M.2.1 1 k 0).toNat) := by funext k; rw [h.2.2 1 k 0 (by omega)]
  rw [e1, e2]
theorem foeM_same {M M' : Od} (h : sameO M M') (v : Int) (n : Nat) : foeM M' v n = foeM M v n := by
  unfold foeM
  have e1 : foe1 M' v = foe1 M v := by funext k; unfold foe1; rw [h.2.2 3 k 1 (by omega)]
  have e2 : (fun k => (M'.2.1 3 k 0).toNat) = (fun k => (M.2.1 3 k 0).toNat) := by funext k; rw [h.2.2 3 k 0 (by omega)]
  rw [e1, e2]
theorem tk_same {M M' : Od} (h : sameO M M') (k : Nat) : tk M' k = tk M k := by unfold tk; rw [h.2.2 2 k 1 (by omega)]
theorem askL_same {M M' : Od} (h : sameO M M') {y : Int} {r1 r2 : Nat → Int → Nat → Nat × Option (Int × List Nat)} (hr : ∀ p w A, r1 p w A = r2 p w A) (p : Nat) (w : Int) : ∀ (q k A : Nat), askL M' y r1 p w q k A = askL M y r2 p w q k A := by
  intro q
  induction q with
  | zero => intro k A; rfl
  | succ q ih =>
    intro k A
    unfold askL
    rw [cov_same h (by omega), tk_same h, h.2.2 2 k 0 (by omega), h.2.2 2 k 4 (by omega), hr]
    split
    · split
      · rfl
      · exact ih _ _
    · exact ih _ _
theorem askF_same {M M' : Od} (h : sameO M M') (bar : Nat) (ak y : Int) : ∀ (n p : Nat) (w : Int) (A : Nat), askF M' bar ak y n p w A = askF M bar ak y n p w A := by
  intro n
  induction n with
  | zero => intro p w A; rfl
  | succ n ih =>
    intro p w A
    unfold askF
    rw [askL_same h ih, h.1]
theorem decF_same {M M' : Od} (h : sameO M M') (m : Mt) (o : Nat) (y : Int) : decF M' m o y = decF M m o y := by
  unfold decF brB
  rw [holder_same h, awB_same h, foeM_same h, askF_same h, h.1, h.2.2 4 o _ (by omega)]
theorem reaF_same {M M' : Od} (h : sameO M M') (m : Mt) (o : Nat) (y : Int) : reaF M' m o y = reaF M m o y := by
  unfold reaF
  rw [holder_same h, awB_same h]
theorem dayF_same {M M' : Od} (h : sameO M M') (m : Mt) (o : Nat) : ∀ (n : Nat) (y : Int), dayF M' m o n y = dayF M m o n y
  | 0, y => rfl
  | n + 1, y => by unfold dayF; rw [decF_same h, dayF_same h m o n]
theorem stepF_same {M M' : Od} (h : sameO M M') (m : Mt) (o : Nat) (y : Int) : stepF M' m o y = stepF M m o y := by
  unfold stepF lastW
  rw [h.2.1, dayF_same h, decF_same h, reaF_same h]
theorem routeF_same {M M' : Od} (h : sameO M M') (m : Mt) (w : Int) : ∀ (n : Nat) (p d : Int), routeF M' m w n p d = routeF M m w n p d
  | 0, p, d => rfl
  | n + 1, p, d => by unfold routeF; rw [stepF_same h, routeF_same h m w n, h.1, h.2.1, h.2.2 4 _ 0 (by omega)]
theorem jm_day {M : Od} {r : Nat} (v : Int) (y : Int) : jm (oPut M 5 r 5 v) r y = jm M r y := by
  have cell : ∀ k c, k < r → (oPut M 5 r 5 v).2.1 5 k c = M.2.1 5 k c := fun k c hk => by
    show (if 5 = 5 ∧ k = r ∧ c = 5 then v else M.2.1 5 k c) = _; rw [if_neg (by omega)]
  have cellr : ∀ c, c ≠ 5 → (oPut M 5 r 5 v).2.1 5 r c = M.2.1 5 r c := fun c hc => by
    show (if 5 = 5 ∧ r = r ∧ c = 5 then v else M.2.1 5 r c) = _; rw [if_neg (by omega)]
  have ecj : ∀ k, k < r → cj (oPut M 5 r 5 v) k r y = cj M k r y := fun k hk => by
    unfold cj; rw [cell k 0 hk, cell k 2 hk, cell k 3 hk, cell k 6 hk, cellr 0 (by omega), cellr 2 (by omega), cellr 3 (by omega)]
  have key : ∀ (A B : Od), A.2.2 0 = B.2.2 0 → (∀ k, k < r → A.2.1 5 k 5 = B.2.1 5 k 5) → (∀ k, k < r → cj A k r y = cj B k r y) → ∀ k, Jc A r y k → Jc B r y k := by
    intro A B hw hc hj k hk S hS
    have := hk (fun i => i < r ∧ S i) (fun i h1 h2 h3 => ⟨h1, hS i h1 (by rw [← hj i h1]; exact h2) ?_⟩)
    · exact this.2
    · unfold nearW at h3 ⊢
      rw [hc i h1, hw] at h3
      rcases h3 with h3 | ⟨q, h4, h5⟩
      · exact Or.inl h3
      · rw [hc q h4.1] at h5
        exact Or.inr ⟨q, h4.2, h5⟩
  apply Nat.eq_of_testBit_eq
  intro i
  rw [Bool.eq_iff_iff, jm_test, jm_test]
  exact ⟨key (oPut M 5 r 5 v) M rfl (fun k hk => cell k 5 hk) ecj i, key M (oPut M 5 r 5 v) rfl (fun k hk => (cell k 5 hk).symm) (fun k hk => (ecj k hk).symm) i⟩
theorem amt_same {M M' : Od} (h : ∀ k, M'.2.1 5 k 4 = M.2.1 5 k 4) (m : Nat) : ∀ n, amt M' m n = amt M m n
  | 0 => rfl
  | n + 1 => by unfold amt; rw [h n, amt_same h m n]
theorem wq_day (M : Od) (r : Nat) (v : Int) : wq (oPut M 5 r 5 v) r = whF M r v := by
  have e5 : (oPut M 5 r 5 v).2.1 5 r 5 = v := by show (if 5 = 5 ∧ r = r ∧ 5 = 5 then v else _) = v; rw [if_pos ⟨rfl, rfl, rfl⟩]
  have e4 : ∀ k, (oPut M 5 r 5 v).2.1 5 k 4 = M.2.1 5 k 4 := fun k => by show (if 5 = 5 ∧ k = r ∧ 4 = 5 then v else _) = _; rw [if_neg (by omega)]
  unfold wq whF
  rw [e5, jm_day, e4, amt_same e4]; rfl
theorem jm_post {M : Od} {r : Nat} (v : Int) (y : Int) : jm (oPut M 5 r 1 v) r y = jm M r y := by
  have e : ∀ k c, c ≠ 1 → (oPut M 5 r 1 v).2.1 5 k c = M.2.1 5 k c := fun k c hc => by
    show (if 5 = 5 ∧ k = r ∧ c = 1 then v else M.2.1 5 k c) = _; rw [if_neg (by omega)]
  have ecj : ∀ k, cj (oPut M 5 r 1 v) k r y = cj M k r y := fun k => by
    unfold cj; rw [e k 0 (by omega), e k 2 (by omega), e k 3 (by omega), e k 6 (by omega), e r 0 (by omega), e r 2 (by omega), e r 3 (by omega)]
  have key : ∀ k, Jc (oPut M 5 r 1 v) r y k ↔ Jc M r y k := by
    intro k
    unfold Jc Jcl nearW
    constructor
    · intro hk S hS
      refine hk S (fun i h1 h2 h3 => hS i h1 (by rw [← ecj i]; exact h2) ?_)
      rw [e i 5 (by omega)] at h3
      rcases h3 with h3 | ⟨q, h4, h5⟩
      · exact Or.inl h3
      · rw [e q 5 (by omega)] at h5; exact Or.inr ⟨q, h4, h5⟩
    · intro hk S hS
      refine hk S (fun i h1 h2 h3 => hS i h1 (by rw [ecj i]; exact h2) ?_)
      rw [e i 5 (by omega)]
      rcases h3 with h3 | ⟨q, h4, h5⟩
      · exact Or.inl h3
      · refine Or.inr ⟨q, h4, ?_⟩; rw [e q 5 (by omega)]; exact h5
  apply Nat.eq_of_testBit_eq
  intro i
  rw [Bool.eq_iff_iff, jm_test, jm_test, key]
theorem wq_post (M : Od) (r : Nat) (v : Int) : wq (oPut M 5 r 1 v) r = wq M r := by
  have e : ∀ k c, c ≠ 1 → (oPut M 5 r 1 v).2.1 5 k c = M.2.1 5 k c := fun k c hc => by
    show (if 5 = 5 ∧ k = r ∧ c = 1 then v else M.2.1 5 k c) = _; rw [if_neg (by omega)]
  unfold wq whF
  rw [e r 5 (by omega), jm_post, e r 4 (by omega), amt_same (fun k => e k 4 (by omega))]; rfl
/-! a route with a whole, and one as if no limit covered it -/
theorem sC4 {e : SE} (h : rOK e) {w : Int} (hw : 1 ≤ w) : sC e w 4 = 0 ↔ w ≤ sC e 10000 3 := by
  obtain ⟨h1, h2, h3, h4, h5, h6⟩ := h
  unfold sC
  simp only []
  cases hd : e.2.2.1 with
  | none => simp only []; omega
  | some z => obtain ⟨x, L⟩ := z; simp only []; split <;> omega
theorem lC_cons {e : SE} {R : List SE} (h : R ≠ []) (w : Int) (c : Nat) : lC (e :: R) w c = lC R w c := by
  unfold lC
  rw [List.getLast?_cons_of_ne_nil h]
theorem cv_route {M : Od} (hO : OKM M) {m : Mt} (hm : mOK m) {w : Int} (hw : 1 ≤ w) (hw2 : w ≤ 2147483646) : ∀ (n : Nat) (p d : Int) (k : Nat), 0 ≤ d →
    (cvF 10000 w (routeF M m 10000 n p d) k ≠ -1 → lC (routeF M m w n p d) w 4 = 0 ∧ cvF 10000 w (routeF M m 10000 n p d) k = (k : Int) + (routeF M m w n p d).length - 1) ∧
    (cvF 10000 w (routeF M m 10000 n p d) k = -1 → lC (routeF M m w n p d) w 4 ≠ 0) := by
  intro n
  induction n with
  | zero => intro p d k _; exact ⟨fun h => absurd rfl h, fun _ => by simp [routeF, lC]⟩
  | succ n ih =>
    intro p d k hd
    rw [routeF, routeF]
    split
    · next hc =>
      have hst := stepF_ok hO hm (post := p.toNat) (by omega) hd hc.2.2
      have hX : sC (stepF M m p.toNat d) 10000 4 ≠ 0 := fun e => by
        have := (sC4 hst (by omega)).mp e
        have := sC_rng hst 10000 3
        omega
      rw [if_neg hX, cvF]
      by_cases e : sC (stepF M m p.toNat d) w 4 = 0
      · rw [if_pos e, if_pos ((sC4 hst hw).mp e)]
        refine ⟨fun _ => ⟨by simp [lC, e], by simp⟩, fun h => by omega⟩
      · rw [if_neg e, if_neg (fun q => e ((sC4 hst hw).mpr q))]
        have h2 := ih (M.2.1 4 p.toNat 0) ((stepF M m p.toNat d).2.1 + M.2.2 1) (k + 1) (by have := hst.2.1; omega)
        refine ⟨fun h => ?_, fun h => ?_⟩
        · obtain ⟨a, b⟩ := h2.1 h
          have hne : routeF M m w n (M.2.1 4 p.toNat 0) ((stepF M m p.toNat d).2.1 + M.2.2 1) ≠ [] := fun q => by rw [q] at a; simp [lC] at a
          refine ⟨by rw [lC_cons hne]; exact a, ?_⟩
          rw [b]; simp; omega
        · have a := h2.2 h
          by_cases hne : routeF M m w n (M.2.1 4 p.toNat 0) ((stepF M m p.toNat d).2.1 + M.2.2 1) = []
          · rw [hne]; simp [lC]; exact e
          · rw [lC_cons hne]; exact a
    · exact ⟨fun h => absurd rfl h, fun _ => by simp [lC]⟩
theorem cv_mono {x y : Int} (h : x ≤ y) : ∀ (R : List SE) (k : Nat), (cvF 10000 y R k ≠ -1 → cvF 10000 x R k ≠ -1 ∧ cvF 10000 x R k ≤ cvF 10000 y R k) ∧ (cvF 10000 x R k ≠ -1 → (k : Int) ≤ cvF 10000 x R k)
  | [], k => ⟨fun q => absurd rfl q, fun q => absurd rfl q⟩
  | e :: R, k => by
    have ih := cv_mono h R (k + 1)
    unfold cvF
    by_cases a : y ≤ sC e 10000 3
    · rw [if_pos a, if_pos (by omega)]; exact ⟨fun _ => ⟨by omega, by omega⟩, fun _ => by omega⟩
    · rw [if_neg a]
      by_cases b : x ≤ sC e 10000 3
      · rw [if_pos b]
        have h2 := (cv_mono (Int.le_refl y) R (k + 1)).2
        exact ⟨fun q => ⟨by omega, by have := h2 q; omega⟩, fun _ => by omega⟩
      · rw [if_neg b]
        exact ⟨ih.1, fun q => by have := ih.2 q; omega⟩
/-- the route that nothing covers -/
theorem routeF_top {M : Od} (hO : OKM M) {m : Mt} (hm : mOK m) {w : Int} (hw : 10000 ≤ w) : ∀ (n : Nat) (p d : Int), 0 ≤ d → routeF M m w n p d = routeF M m 10000 n p d := by
  intro n
  induction n with
  | zero => intro p d _; rfl
  | succ n ih =>
    intro p d hd
    rw [routeF, routeF]
    split
    · next hc =>
      have hst := stepF_ok hO hm (post := p.toNat) (by omega) hd hc.2.2
      have hr := sC_rng hst 10000 3
      rw [if_neg (fun e => by have := (sC4 hst (by omega)).mp e; omega), if_neg (fun e => by have := (sC4 hst (by omega)).mp e; omega), ih _ _ (by have := hst.2.1; omega)]
    · rfl
