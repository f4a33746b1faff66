/-! who holds a post, who is away, who is a foe -/
def cov (M : Od) (d k : Nat) (day : Int) : Bool := decide (M.2.1 d k (oF d) ≤ day) && decide (day ≤ M.2.1 d k (oF d + 1))
theorem oF_lt : ∀ d, d < 3 → oF d + 1 < oW d := by decide +kernel
def sp_covers : Sp := spS 0 (fun f s t as K => ∃ (M : Od) (d k : Nat) (day : Int), as = [.ref 0, .int (iI d), .int (iI k), .int (iI day)] ∧ RS f s t M ∧ OKM M ∧ d < 3 ∧ k < M.1 d ∧ ir day ∧ K (some (.int (bI (cov M d k day)))))
theorem v_covers (l : Launch) : z_V l 60 sp_covers := by
  refine z_V.of (by decide +kernel) ?_
  rintro as σ K ⟨f, s, t, rfl, M, d, k, day, rfl, hR, hO, hd, hk, ⟨d1, d2⟩, hK⟩
  have hf := oF_lt d hd
  have hz := zi_lt (by omega : d < 6) hk (hR.max d (by omega)) hf
  have ez : zi d k (oF d + 1) = zi d k (oF d) + 1 := rfl
  have c1 := hO.cell (by omega : d < 6) hk (by omega : oF d < oW d)
  have c2 := hO.cell (by omega : d < 6) hk hf
  have r1 := hR.2.1 d k (oF d) (by omega) hk (by omega)
  have r2 := hR.2.1 d k (oF d + 1) (by omega) hk hf
  refine AW.go (bs := b_State_covers) [] 60 t_State_covers ?_
  refine And.intro (zN_in (by show d < 6; omega) (by omega)) ?_
  refine And.intro (zN_in (by show d < 6; omega) (by omega)) ?_
  refine And.intro (zN_in hd (by omega)) ?_
  show _ ∧ _
  have e2 : nI ([0, 96, 168, 288, 320, 368].getD (iI (d : Int)).toNatClampNeg 0) + iI (k : Int) * nI ([4, 3, 5, 2, 4, 7].getD (iI (d : Int)).toNatClampNeg 0) + nI ([2, 1, 2].getD (iI (d : Int)).toNatClampNeg 0) = iI ((zi d k (oF d) : Nat) : Int) := by
    rw [z_tab _ (by omega), z_tab _ (by omega), z_tab _ (by omega)]; exact zi_eq d k (oF d)
  rw [e2]
  refine And.intro (zN_in (by omega) (by omega)) ?_
  refine And.intro (fun h => ?_) (fun h => ?_)
  · rw [zN_cl (by omega), r1, zc_gt (by omega) (by omega) d1 d2] at h
    refine And.intro (Or.inl rfl) (Or.inl ⟨rfl, ?_⟩)
    rwa [cov, decide_eq_false (by omega), Bool.false_and] at hK
  · rw [zN_cl (by omega), r1, zc_gt (by omega) (by omega) d1 d2] at h
    show _ ∧ _
    rw [zn_inc]
    refine And.intro (zN_in hz (by omega)) ?_
    refine And.intro (fun h2 => ?_) (fun h2 => ?_)
    · rw [zN_cl (by omega), ← ez, r2, zc_gt d1 d2 (by omega) (by omega)] at h2
      refine And.intro (Or.inl rfl) (Or.inl ⟨rfl, ?_⟩)
      rwa [cov, decide_eq_true (by omega), decide_eq_false (by omega), Bool.and_false] at hK
    · rw [zN_cl (by omega), ← ez, r2, zc_gt d1 d2 (by omega) (by omega)] at h2
      refine And.intro (Or.inr rfl) (Or.inl ⟨rfl, ?_⟩)
      rwa [cov, decide_eq_true (by omega), decide_eq_true (by omega), Bool.and_true] at hK
def hold1 (M : Od) (p day : Int) (k : Nat) : Bool := decide (M.2.1 0 k 0 = p) && cov M 0 k day
def holder (M : Od) (p day : Int) : Int := match (List.range (M.1 0)).find? (hold1 M p day) with
  | some k => M.2.1 0 k 1
  | none => -1
theorem find_some {n k : Nat} {P : Nat → Bool} (hk : k < n) (hp : P k = true) (h : ∀ i, i < k → P i = false) : (List.range n).find? P = some k := by
  rw [List.find?_range_eq_some]
  exact ⟨hp, List.mem_range.mpr hk, fun j hj => by rw [h j hj]; rfl⟩
theorem find_none {n : Nat} {P : Nat → Bool} (h : ∀ i, i < n → P i = false) : (List.range n).find? P = none := by
  rw [List.find?_range_eq_none]
  intro i hi
  rw [h i hi]; rfl
def sp_holderAt : Sp := spS 1 (fun f s t as K => ∃ (M : Od) (p day : Int), as = [.ref 0, .int (iI p), .int (iI day)] ∧ RS f s t M ∧ OKM M ∧ ir p ∧ ir day ∧ K (some (.int (iI (holder M p day)))))
theorem v_holderAt (l : Launch) : z_V l 61 sp_holderAt := by
  refine z_V.of (by decide +kernel) ?_
  rintro as σ K ⟨f, s, t, rfl, M, p, day, rfl, hR, hO, ⟨p1, p2⟩, hdy, hK⟩
  have hs := hR.size 0 (by omega)
  have hm := hR.max40 0 (by omega)
  have loop : ∀ (n k : Nat) (x : Int32), M.1 0 ≤ k + n → k ≤ M.1 0 → x = iI (k : Int) → (∀ i, i < k → hold1 M p day i = false) → AW l 61 1 0 0 4 none (fun r σ' => (σ' = wS f s t ∧ K r none) ∨ K r (some σ')) 2 [some (.ref 0), some (.int (iI p)), some (.int (iI day)), some (.int x)] [] (wS f s t) 0 0 := by
    intro n
    induction n with
    | zero =>
      intro k x h1 h2 hx hh
      subst hx
      refine AW.go (bs := b_State_holderAt) [2] 60 t_State_holderAt ?_
      refine And.intro (zn_in (by omega) (by omega)) ?_
      refine And.intro (fun h => ?_) (fun h => ?_)
      · refine Or.inl ⟨rfl, ?_⟩
        rw [holder, find_none (fun i hi => hh i (by omega))] at hK
        exact hK
      · rw [zn_cl (by omega), hs, zc_ge (by omega) (by omega) (by omega) (by omega)] at h
        omega
    | succ n ih =>
      intro k x h1 h2 hx hh
      subst hx
      refine AW.go (bs := b_State_holderAt) [2] 60 t_State_holderAt ?_
      refine And.intro (zn_in (by omega) (by omega)) ?_
      refine And.intro (fun h => ?_) (fun h => ?_)
      · rw [zn_cl (by omega), hs, zc_ge (by omega) (by omega) (by omega) (by omega)] at h
        refine Or.inl ⟨rfl, ?_⟩
        rw [holder, find_none (fun i hi => hh i (by omega))] at hK
        exact hK
      · rw [zn_cl (by omega), hs, zc_ge (by omega) (by omega) (by omega) (by omega)] at h
        have hk : k < M.1 0 := by omega
        have c0 := hO.cell (by omega : 0 < 6) hk (by decide : 0 < oW 0)
        have next : hold1 M p day k = false → ∀ i, i < k + 1 → hold1 M p day i = false := by
          intro h0 i hi
          rcases Nat.lt_or_ge i k with q | q
          · exact hh i q
          · rw [show i = k by omega]; exact h0
        refine ⟨_, v_cell l, by decide, f, s, t, rfl, M, 0, k, 0, rfl, hR, by omega, hk, by decide, ?_⟩
        refine And.intro (fun h => ?_) (fun h => ?_)
        · rw [zc_ne (by omega) (by omega) p1 p2] at h
          exact ih (k + 1) _ (by omega) (by omega) (zn_inc k) (next (by rw [hold1, decide_eq_false (by omega), Bool.false_and]))
        · rw [zc_ne (by omega) (by omega) p1 p2] at h
          refine ⟨_, v_covers l, by decide, f, s, t, rfl, M, 0, k, day, rfl, hR, hO, by omega, hk, hdy, ?_⟩
          refine And.intro (fun h3 => ?_) (fun h3 => ?_)
          · rw [zc_beq] at h3
            exact ih (k + 1) _ (by omega) (by omega) (zn_inc k) (next (by rw [hold1, h3, Bool.and_false]))
          · rw [zc_beq] at h3
            refine ⟨_, v_cell l, by decide, f, s, t, rfl, M, 0, k, 1, rfl, hR, by omega, hk, by decide, ?_⟩
            refine Or.inl ⟨rfl, ?_⟩
            rw [holder, find_some hk (by rw [hold1, decide_eq_true (by omega), Bool.true_and]; simpa using h3) hh] at hK
            exact hK
  refine AW.go (bs := b_State_holderAt) [2] 60 t_State_holderAt ?_
  exact loop (M.1 0) 0 _ (by omega) (by omega) rfl (fun i hi => by omega)
