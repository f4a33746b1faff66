/-! the start out of the law's walk -/
set_option maxRecDepth 20000 in
theorem st_room {s : State} {pl : Platform} {r r' : Room} (h : s.hasRoom pl r = true) (h1 : r'.frames ≤ r.frames) (h2 : r'.cells ≤ r.cells) (h3 : r'.slots ≤ r.slots) (h4 : r'.locals ≤ r.locals) : s.hasRoom pl r' = true := by
  simp only [State.hasRoom, Bool.and_eq_true, decide_eq_true_eq] at h ⊢
  obtain ⟨⟨⟨⟨a, b1, b2, b3, b4, b5⟩, c⟩, d⟩, e⟩ := h
  exact ⟨⟨⟨⟨by omega, by omega, by omega, by omega, by omega, b5⟩, by omega⟩, by omega⟩, e⟩
set_option maxRecDepth 20000 in
theorem lk_co : k_co 279 = code := rfl
set_option maxRecDepth 20000 in
theorem lk_nL : k_nL 279 = 4 := rfl
set_option maxRecDepth 20000 in
theorem lk_re : k_re 279 = ret := rfl
set_option maxRecDepth 20000 in
theorem lk_ki : k_ki 279 ≠ 2 := by decide +kernel
set_option maxRecDepth 20000 in
theorem lk_cn : k_cn (k_ci 279) = "ApprovalRoutesLaw" := rfl
set_option maxRecDepth 20000 in
theorem k_start {args : Array Value} {s : State} (hts : ∀ w ∈ z_U, w.before args s = true) (ht : ∀ w ∈ lw_tbl, w.before args s = true) : ∃ (D : va_G) (cy : Nat → ClassId), va_K D k_cl (z_tys cy) s := by
  have h0 : ∀ k : Nat, ∃ z : ClassId × (Nat → Nat), ∀ q, k_cl[k]? = some q → u_Kn s q.1 q.2.1 q.2.2 z.1 z.2 := by
    intro k
    cases hk : k_cl[k]? with
    | none => exact ⟨(0, fun _ => 0), fun q h => by cases h⟩
    | some r =>
      obtain ⟨c1, c2, c3, c4, c5⟩ := z_clok hk
      have hin1 := hts _ (z_inU (k_lb _ c5) rfl)
      simp only [k_cB, ← c4] at hin1
      obtain ⟨cC, iS, h⟩ := u_known (C := r.1) (T := r.2.1) (N := r.2.2) (n := r.2.2) hts (z_wsU hk) hin1
      exact ⟨(cC, iS), fun q e => by cases e; exact h⟩
  obtain ⟨f, hf⟩ := Classical.axiomOfChoice h0
  obtain ⟨a0, k0, p0, x0, y0, z0⟩ := Cond.arrayClass_spec (hts _ (z_inU (k_lxx 9 (by decide)) rfl))
  obtain ⟨a1, k1, p1, x1, y1, z1⟩ := Cond.arrayClass_spec (hts _ (z_inU (k_lxx 10 (by decide)) rfl))
  obtain ⟨a2, k2, p2, x2, y2, z2⟩ := Cond.arrayClass_spec (hts _ (z_inU (k_lxx 11 (by decide)) rfl))
  obtain ⟨p3, a3, k3, w3, _, y3, z3, x3⟩ := Cond.arrayOver_spec (ht _ (k_lxx 12 (by decide)))
  refine ⟨(fun k => (f k).1, fun k => (f k).2), fun k => [a0, a1, a2, a3].getD k a0, fun k q hk => hf k q hk, ?_⟩
  intro k q hk
  match k, hk with
  | 0, hk => cases hk; exact ⟨fun n z => ⟨fun k h => (by cases h), k0, y0, p0, z0⟩, x0⟩
  | 1, hk => cases hk; exact ⟨fun n z => ⟨fun k h => (by cases h), k1, y1, p1, z1⟩, x1⟩
  | 2, hk => cases hk; exact ⟨fun n z => ⟨fun k h => (by cases h), k2, y2, p2, z2⟩, x2⟩
  | 3, hk => cases hk; exact ⟨fun n z => ⟨fun k h => (by cases h), k3, y3, p3, z3⟩, ⟨k3, p3, y3, z3, w3, x3⟩⟩
  | k + 4, hk => simp [z_tys] at hk
