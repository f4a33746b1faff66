/-! calls: renaming between worlds -/
theorem z_ix_spec0 : ∀ (ρ is : List Nat) (g k : Nat), z_ix ρ is g = some k → ∃ n : Nat, is[n]? = some k ∧ ρ[n]? = some g := by
  intro ρ
  induction ρ with
  | nil => intro is g k h; cases is <;> cases h
  | cons r ρ ih =>
    intro is g k h
    cases is with
    | nil => cases h
    | cons i is =>
      simp only [z_ix] at h
      cases hb : Nat.beq r g with
      | true => rw [hb] at h; cases h; exact ⟨0, by simp, by simp [Nat.eq_of_beq_eq_true hb]⟩
      | false =>
        rw [hb] at h
        obtain ⟨n, h1, h2⟩ := ih is g k h
        exact ⟨n + 1, by simpa using h1, by simpa using h2⟩
theorem z_ix_spec {ρ : List Nat} {g k : Nat} (h : z_ix ρ z_nums g = some k) : ρ[k]? = some g := by
  obtain ⟨n, h1, h2⟩ := z_ix_spec0 ρ z_nums g k h
  rw [z_nums_at h1]
  exact h2
theorem z_ble_t {a b : Nat} (h : a ≤ b) : Nat.ble a b = true := Nat.ble_eq.mpr h
theorem z_ble_f {a b : Nat} (h : b < a) : Nat.ble a b = false := by
  cases hb : Nat.ble a b with
  | false => rfl
  | true => have := Nat.ble_eq.mp hb; omega
theorem z_iv_ok {ρ : List Nat} (hl : ρ.length < 1000) (g : Nat) : z_ok1 ρ.length (z_iv ρ g) = true := by
  have hge : ∀ x, 1000 ≤ x → z_ok1 ρ.length x = true := fun x hx => by simp [z_ok1, z_ble_t hx]
  unfold z_iv
  cases h1 : Nat.ble 1000 g with
  | false =>
    simp only
    cases hx : z_ix ρ z_nums g with
    | none => exact hge _ (by show 1000 ≤ 10000 + g; omega)
    | some i =>
      have hn := z_ix_spec hx
      have := (List.getElem?_eq_some_iff.mp hn).1
      simp only [z_ok1, Bool.or_eq_true]
      left
      exact z_ble_t (by show i + 1 ≤ ρ.length; omega)
  | true =>
    have := Nat.ble_eq.mp h1
    simp only
    cases h2 : Nat.ble 10000 g with
    | false => exact hge _ this
    | true => exact hge _ (by show 1000 ≤ 10000 + g; omega)
theorem z_fwiv {ρ ρ' : List Nat} {N g : Nat} (hl : ρ.length < 1000) (hpre : ∀ (i r : Nat), ρ[i]? = some r → ρ'[i]? = some r) (h : N = 1000 ∨ z_ok1 N g = true) : z_fw ρ' N (z_iv ρ g) = g := by
  have hN : g < 1000 → N = 1000 ∨ g < N := by
    intro hg
    rcases h with h | h
    · exact Or.inl h
    · rcases z_ok1_lt h with h | h
      · exact Or.inr h
      · omega
  unfold z_iv
  cases h1 : Nat.ble 1000 g with
  | false =>
    have hg : g < 1000 := by
      rcases Nat.lt_or_ge g 1000 with q | q
      · exact q
      · rw [z_ble_t q] at h1; cases h1
    simp only
    cases hx : z_ix ρ z_nums g with
    | some i =>
      have hn := z_ix_spec hx
      have := (List.getElem?_eq_some_iff.mp hn).1
      simp only [z_fw]
      rw [z_ble_f (by omega : i < 1000)]
      simp only [z_nth_eq, hpre _ _ hn]
    | none =>
      simp only [z_fw]
      rw [z_ble_t (by omega : 1000 ≤ 10000 + g), z_ble_t (by omega : 10000 ≤ 10000 + g)]
      simp only
      rw [show 10000 + g - 10000 = g by omega]
      rcases hN hg with e | e
      · rw [z_ble_f (by omega : g < N)]; rfl
      · rw [z_ble_f e]; rfl
  | true =>
    have hg := Nat.ble_eq.mp h1
    simp only
    cases h2 : Nat.ble 10000 g with
    | false => simp only [z_fw, h1, h2]
    | true =>
      simp only [z_fw]
      rw [z_ble_t (by omega : 1000 ≤ 10000 + g), z_ble_t (by omega : 10000 ≤ 10000 + g)]
      simp only
      rw [show 10000 + g - 10000 = g by omega]
      have hb : Nat.blt g 1000 = false := z_ble_f (by omega)
      rw [hb, Bool.and_false]
theorem z_okr_spec : ∀ {ρ : List Nat} {N : Nat}, z_okr ρ N = true → ρ.Nodup ∧ ∀ r ∈ ρ, r < N := by
  intro ρ
  induction ρ with
  | nil => intro N _; exact ⟨List.nodup_nil, fun _ h => by cases h⟩
  | cons r ρ ih =>
    intro N h
    simp only [z_okr, Bool.and_eq_true, Bool.not_eq_true', Nat.blt_eq] at h
    obtain ⟨h1, h2, h3⟩ := h
    obtain ⟨i1, i2⟩ := ih h3
    refine ⟨List.nodup_cons.mpr ⟨fun hm => ?_, i1⟩, fun x hx => ?_⟩
    · rw [List.elem_eq_true_of_mem hm] at h2; cases h2
    · rcases List.mem_cons.mp hx with rfl | hx
      · exact h1
      · exact i2 x hx
theorem z_rho_ex {σ : List AE} {args : List Value} : ∀ (ps : List (Nat × List Nat)) {k : List Nat → Prop}, z_rho σ args ps k → ∃ ρ, k ρ := by
  intro ps
  induction ps with
  | nil => intro k h; exact ⟨[], h⟩
  | cons q ps ih =>
    intro k h
    simp only [z_rho] at h
    split at h
    · split at h
      · obtain ⟨ρ, h⟩ := ih h; exact ⟨_, h⟩
      · exact h.elim
    · exact h.elim
theorem z_lw_ex {σ : List AE} {ρ0 : List Nat} : ∀ (ρ : List Nat) {k : List AE → Prop}, z_lw σ ρ0 ρ k → ∃ σl, k σl ∧ σl.length = ρ.length ∧ ∀ (i r : Nat), ρ[i]? = some r → ∃ c, σ[r]? = some c ∧ σl[i]? = some (z_ce (z_iv ρ0) c) := by
  intro ρ
  induction ρ with
  | nil => intro k h; exact ⟨[], h, rfl, fun i r h => by simp at h⟩
  | cons r ρ ih =>
    intro k h
    simp only [z_lw] at h
    split at h
    · next c hc =>
      rw [z_ceK_eq (z_ivK_eq ρ0)] at h
      obtain ⟨σl, h1, h2, h3⟩ := ih h
      refine ⟨_, h1, by simp [h2], fun i x hx => ?_⟩
      cases i with
      | zero => simp at hx; subst hx; exact ⟨c, by rw [← z_nth_eq]; exact hc, by simp⟩
      | succ i => simpa using h3 i x (by simpa using hx)
    · exact h.elim
theorem z_wb_spec (fw : Nat → Nat) : ∀ (ρ : List Nat) (σ σl : List AE), ρ.Nodup → (∀ r ∈ ρ, r < σ.length) → ρ.length ≤ σl.length →
    (z_wb fw ρ σ σl).length = σ.length + (σl.length - ρ.length) ∧ (∀ (i r : Nat) (c : AE), ρ[i]? = some r → σl[i]? = some c → (z_wb fw ρ σ σl)[r]? = some (z_ce fw c)) ∧ (∀ k : Nat, k ∉ ρ → k < σ.length → (z_wb fw ρ σ σl)[k]? = σ[k]?) ∧ (∀ (i : Nat) (c : AE), ρ.length ≤ i → σl[i]? = some c → (z_wb fw ρ σ σl)[σ.length + (i - ρ.length)]? = some (z_ce fw c)) := by
  intro ρ
  induction ρ with
  | nil =>
    intro σ σl _ _ _
    refine ⟨by simp [z_wb], fun i r c h => by simp at h, fun k _ hk => by simp only [z_wb]; rw [List.getElem?_append_left hk], fun i c _ h => ?_⟩
    simp only [z_wb, List.length_nil, Nat.sub_zero]
    rw [List.getElem?_append_right (by omega)]
    simp [h]
  | cons r ρ ih =>
    intro σ σl hnd hlt hlen
    cases σl with
    | nil => simp at hlen
    | cons c σl =>
      obtain ⟨hr, hnd⟩ := List.nodup_cons.mp hnd
      have hr1 : r < σ.length := hlt r List.mem_cons_self
      obtain ⟨a1, a2, a3, a4⟩ := ih (z_set σ r (z_ce fw c)) σl hnd (fun x hx => by rw [z_set_eq]; simpa using hlt x (List.mem_cons_of_mem _ hx)) (by simpa using hlen)
      rw [z_set_eq] at a1 a2 a3 a4
      simp only [List.length_set] at a1 a3 a4
      simp only [z_wb, z_set_eq]
      refine ⟨by rw [a1]; simp, fun i x d hi hd => ?_, fun k hk hk2 => ?_, fun i d hi hd => ?_⟩
      · cases i with
        | zero =>
          simp at hi hd
          subst hi; subst hd
          rw [a3 r hr hr1]
          simp [hr1]
        | succ i => exact a2 i x d (by simpa using hi) (by simpa using hd)
      · rw [a3 k (fun h => hk (List.mem_cons_of_mem _ h)) hk2, List.getElem?_set_ne (fun e => hk (by rw [e]; exact List.mem_cons_self))]
      · cases i with
        | zero => simp at hi
        | succ i =>
          have := a4 i d (by simpa using hi) (by simpa using hd)
          simpa using this
theorem z_okC_ce {ρ : List Nat} (hl : ρ.length < 1000) (c : AE) : z_okC ρ.length (z_ce (z_iv ρ) c) = true := by
  rcases c with a | rs | ⟨ci, fs⟩
  · rfl
  · simp only [z_ce, z_okC, List.all_map, List.all_eq_true]
    intro o _
    cases o with
    | none => rfl
    | some g => exact z_iv_ok hl g
  · simp only [z_ce, z_okC, List.all_map, List.all_eq_true]
    intro v _
    cases v <;> first | rfl | exact z_iv_ok hl _
