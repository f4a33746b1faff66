/-! worlds and numberings -/
theorem z_cv_comp (f g : Nat → Nat) (v : Value) : z_cv f (z_cv g v) = z_cv (fun k => f (g k)) v := by cases v <;> rfl
theorem z_cv_cat (f : Nat → Nat) (v : Value) : (z_cv f v).category = v.category := by cases v <;> rfl
theorem z_con_ce (cy : Nat → ClassId) (ad g : Nat → Nat) (c : AE) : z_con cy ad (z_ce g c) = z_con cy (fun k => ad (g k)) c := by
  rcases c with a | rs | ⟨ci, fs⟩
  · rfl
  · simp only [z_ce, z_con, List.length_map]
    congr 7
    funext i
    simp only [List.getD_eq_getElem?_getD, List.getElem?_map]
    cases rs[i]? with
    | none => rfl
    | some o => cases o <;> rfl
  · simp only [z_ce, z_con, List.map_map]
    congr 2
    exact List.map_congr_left (fun v _ => z_cv_comp _ _ v)
theorem z_wc_at (cy : Nat → ClassId) (ad : Nat → Nat) (σ : List AE) : ∀ (k i : Nat), (z_wc cy ad k σ)[i]? = (σ[i]?).map (fun c => (ad (k + i), z_con cy ad c)) := by
  induction σ with
  | nil => intro k i; simp [z_wc]
  | cons c σ ih =>
    intro k i
    cases i with
    | zero => simp [z_wc]
    | succ i =>
      simp only [z_wc, List.getElem?_cons_succ, ih (k + 1) i]
      rw [show k + 1 + i = k + (i + 1) by omega]
theorem z_wc_len (cy : Nat → ClassId) (ad : Nat → Nat) (σ : List AE) : ∀ k, (z_wc cy ad k σ).length = σ.length := by
  induction σ with
  | nil => intro k; rfl
  | cons c σ ih => intro k; simp [z_wc, ih]
theorem z_wc_set (cy : Nat → ClassId) (ad : Nat → Nat) (σ : List AE) (i : Nat) (c : AE) (k : Nat) : z_wc cy ad k (σ.set i c) = (z_wc cy ad k σ).set i (ad (k + i), z_con cy ad c) := by
  apply List.ext_getElem?
  intro n
  rw [z_wc_at, List.getElem?_set, List.getElem?_set, z_wc_at, z_wc_len]
  by_cases h : i = n
  · subst h
    by_cases h2 : i < σ.length
    · simp [h2]
    · simp [h2]
  · simp [h]
theorem z_wc_app (cy : Nat → ClassId) (ad : Nat → Nat) (τ σ : List AE) : ∀ k, z_wc cy ad k (σ ++ τ) = z_wc cy ad k σ ++ z_wc cy ad (k + σ.length) τ := by
  induction σ with
  | nil => intro k; simp [z_wc]
  | cons c σ ih => intro k; simp only [List.cons_append, z_wc, ih, List.length_cons]; rw [show k + 1 + σ.length = k + (σ.length + 1) by omega]
theorem z_cv_congr {N : Nat} {ad ad' : Nat → Nat} (h : ∀ k, z_ok1 N k = true → ad k = ad' k) {v : Value} (hv : z_okV N v = true) : z_cv ad v = z_cv ad' v := by
  cases v <;> first | rfl | exact congrArg Value.ref (h _ hv)
theorem z_con_congr {N : Nat} {cy : Nat → ClassId} {ad ad' : Nat → Nat} (h : ∀ k, z_ok1 N k = true → ad k = ad' k) {c : AE} (hc : z_okC N c = true) : z_con cy ad c = z_con cy ad' c := by
  rcases c with a | rs | ⟨ci, fs⟩
  · rfl
  · simp only [z_con]
    congr 7
    funext i
    simp only [List.getD_eq_getElem?_getD]
    cases hi : rs[i]? with
    | none => rfl
    | some o =>
      cases o with
      | none => rfl
      | some g =>
        have := List.all_eq_true.mp hc _ (List.mem_of_getElem? hi)
        simp only [Option.getD_some, Option.map_some]
        rw [h g this]
  · simp only [z_con]
    congr 2
    exact List.map_congr_left (fun v hv => z_cv_congr h (List.all_eq_true.mp hc v hv))
theorem z_wc_congr {cy : Nat → ClassId} {ad ad' : Nat → Nat} {k0 : Nat} {σ : List AE} (h1 : ∀ i, i < σ.length → ad (k0 + i) = ad' (k0 + i)) (h2 : ∀ c ∈ σ, z_con cy ad c = z_con cy ad' c) : z_wc cy ad k0 σ = z_wc cy ad' k0 σ := by
  apply List.ext_getElem?
  intro n
  rw [z_wc_at, z_wc_at]
  cases hn : σ[n]? with
  | none => rfl
  | some c => simp only [Option.map_some]; rw [h1 n (List.getElem?_eq_some_iff.mp hn).1, h2 c (List.mem_of_getElem? hn)]
theorem z_kn_mem {ad : Nat → Nat} {L : LC} : ∀ {k : Nat} {q : Nat × Value}, q ∈ z_kn ad k L ↔ ∃ (i : Nat) (v : Value), L[i]? = some (some v) ∧ q = (k + i, z_cv ad v) := by
  induction L with
  | nil => intro k q; simp [z_kn]
  | cons o L ih =>
    intro k q
    cases o with
    | none =>
      simp only [z_kn, ih]
      constructor
      · rintro ⟨i, v, h, rfl⟩
        exact ⟨i + 1, v, by simpa using h, by rw [show k + 1 + i = k + (i + 1) by omega]⟩
      · rintro ⟨i, v, h, rfl⟩
        cases i with
        | zero => simp at h
        | succ i => exact ⟨i, v, by simpa using h, by rw [show k + 1 + i = k + (i + 1) by omega]⟩
    | some w =>
      simp only [z_kn, List.mem_cons, ih]
      constructor
      · rintro (rfl | ⟨i, v, h, rfl⟩)
        · exact ⟨0, w, by simp, by simp⟩
        · exact ⟨i + 1, v, by simpa using h, by rw [show k + 1 + i = k + (i + 1) by omega]⟩
      · rintro ⟨i, v, h, rfl⟩
        cases i with
        | zero => left; simp at h; subst h; simp
        | succ i => right; exact ⟨i, v, by simpa using h, by rw [show k + 1 + i = k + (i + 1) by omega]⟩
theorem z_lv_mono {ls : Array Slot} {n : Nat} {l l' : List (Nat × Value)} (h : lv_has ls n l) (hm : ∀ q ∈ l', q ∈ l) : lv_has ls n l' := ⟨h.1, h.2.1, fun q hq => h.2.2 q (hm q hq)⟩
theorem z_lv_at {ls : Array Slot} {n : Nat} {ad : Nat → Nat} {L : LC} (h : lv_has ls n (z_kn ad 0 L)) {i : Nat} {v : Value} (hv : L[i]? = some (some v)) : ls[i]? = some (.val (z_cv ad v)) := by
  have := h.2.2 (i, z_cv ad v) (z_kn_mem.mpr ⟨i, v, hv, by simp⟩)
  exact this
theorem z_okS_spec {L : LC} {i : Nat} (h : z_okS L i = true) {j : Nat} {v : Value} (hj : j + 1 = i) (hv : L[j]? = some (some v)) : v.category = 1 := by
  subst hj
  simp only [z_okS, z_nth_eq, hv] at h
  cases v <;> first | rfl | simp at h
theorem z_store1 {ad : Nat → Nat} {ls : Array Slot} {n i : Nat} {L : LC} {v : Value} (h : lv_has ls n (z_kn ad 0 L)) (hi : i < n) (hc : v.category = 1) (hok : z_okS L i = true) :
    ∀ ls', lv_has ls' n ((i, z_cv ad v) :: (z_kn ad 0 L).filter (fun q => !(q.1 == i) && !(q.1 + 1 == i && q.2.category == 2))) → lv_has ls' n (z_kn ad 0 (z_set L i (some v))) := by
  intro ls' h'
  refine z_lv_mono h' (fun q hq => ?_)
  obtain ⟨j, w, hj, rfl⟩ := z_kn_mem.mp hq
  rw [z_set_eq, List.getElem?_set] at hj
  by_cases e : i = j
  · subst e
    simp only [if_true] at hj
    split at hj
    · cases hj; simp
    · cases hj
  · rw [if_neg e] at hj
    refine List.mem_cons_of_mem _ (List.mem_filter.mpr ⟨z_kn_mem.mpr ⟨j, w, hj, rfl⟩, ?_⟩)
    simp only [Nat.zero_add]
    have h1 : (j == i) = false := by simpa using Ne.symm e
    rw [h1]
    by_cases e2 : j + 1 = i
    · have := z_okS_spec hok e2 hj
      simp [z_cv_cat, this]
    · simp [e2]
theorem z_store2 {ad : Nat → Nat} {ls : Array Slot} {n i : Nat} {L : LC} {v : Value} (h : lv_has ls n (z_kn ad 0 L)) (hi : i + 1 < n) (hc : v.category = 2) (hok : z_okS L i = true) :
    ∀ ls', lv_has ls' n ((i, z_cv ad v) :: (z_kn ad 0 L).filter (fun q => !(q.1 == i) && (!(q.1 == i + 1) && !(q.1 + 1 == i && q.2.category == 2)))) → lv_has ls' n (z_kn ad 0 (z_set (z_set L i (some v)) (i + 1) none)) := by
  intro ls' h'
  refine z_lv_mono h' (fun q hq => ?_)
  obtain ⟨j, w, hj, rfl⟩ := z_kn_mem.mp hq
  rw [z_set_eq, z_set_eq, List.getElem?_set] at hj
  by_cases e : i + 1 = j
  · subst e
    simp only [if_true] at hj
    split at hj <;> cases hj
  · rw [if_neg e, List.getElem?_set] at hj
    by_cases e1 : i = j
    · subst e1
      simp only [if_true] at hj
      split at hj
      · cases hj; simp
      · cases hj
    · rw [if_neg e1] at hj
      refine List.mem_cons_of_mem _ (List.mem_filter.mpr ⟨z_kn_mem.mpr ⟨j, w, hj, rfl⟩, ?_⟩)
      simp only [Nat.zero_add]
      have h1 : (j == i) = false := by simpa using Ne.symm e1
      have h2 : (j == i + 1) = false := by simpa using Ne.symm e
      rw [h1, h2]
      by_cases e2 : j + 1 = i
      · have := z_okS_spec hok e2 hj
        simp [z_cv_cat, this]
      · simp [e2]
/-! what stands beside the world -/
theorem z_Amb.kept {X : Option (Nat × (Nat → Int32))} {ad : Nat → Nat} {A : Nat → Prop} {U : State} {H H1 : Heap} (h : z_Amb X ad A U H) (hs : H.size ≤ H1.size) (hq : ∀ a : Nat, a < H.size → ¬ A a → H1[a]? = H[a]?) : z_Amb X ad A U H1 := by
  obtain ⟨h1, h2, h3, h4, h5, h6, h7, h9, h8⟩ := h
  refine ⟨fun i xs hi => ⟨(h1 i xs hi).1.kept hq, (h1 i xs hi).2.kept hq⟩, h2.kept hq, ?_, fun i xs hi => ?_, h5, h6, h7, h9, fun q e => ?_⟩
  · rcases h3 with h3 | h3
    · exact Or.inl (h3.kept hq)
    · exact Or.inr (h3.kept hq)
  · obtain ⟨g1, g2, g3, g4⟩ := h4 i xs hi
    exact ⟨g1.kept hq, g2.kept hq, g3.kept hq, g4.kept hq⟩
  · obtain ⟨g1, g2, g3⟩ := h8 q e
    exact ⟨g1.kept (hq _ g2 g3), Nat.lt_of_lt_of_le g2 hs, g3⟩
theorem z_Amb.narrow {X : Option (Nat × (Nat → Int32))} {ad : Nat → Nat} {A B : Nat → Prop} {U : State} {H : Heap} (h : z_Amb X ad A U H) (hAB : ∀ q, B q → A q) : z_Amb X ad B U H := by
  obtain ⟨h1, h2, h3, h4, h5, h6, h7, h9, h8⟩ := h
  refine ⟨fun i xs hi => ⟨(h1 i xs hi).1.narrow hAB, (h1 i xs hi).2.narrow hAB⟩, h2.narrow hAB, ?_, fun i xs hi => ?_, h5, h6, h7, h9, fun q e => ?_⟩
  · rcases h3 with h3 | h3
    · exact Or.inl (h3.narrow hAB)
    · exact Or.inr (h3.narrow hAB)
  · obtain ⟨g1, g2, g3, g4⟩ := h4 i xs hi
    exact ⟨g1.narrow hAB, g2.narrow hAB, g3.narrow hAB, g4.narrow hAB⟩
  · obtain ⟨g1, g2, g3⟩ := h8 q e
    exact ⟨g1, g2, fun z => g3 (hAB _ z)⟩
theorem z_Amb.forget {X : Option (Nat × (Nat → Int32))} {ad : Nat → Nat} {A : Nat → Prop} {U : State} {H : Heap} (h : z_Amb X ad A U H) : z_Amb none ad A U H := by
  obtain ⟨h1, h2, h3, h4, h5, h6, h7, h9, h8⟩ := h
  exact ⟨h1, h2, h3, h4, h5, h6, h7, h9, fun q e => by cases e⟩
theorem z_Amb.renum {X : Option (Nat × (Nat → Int32))} {ad ad' : Nat → Nat} {A : Nat → Prop} {U : State} {H : Heap} (h : z_Amb X ad A U H) (he : ∀ k, 1000 ≤ k → k < 10000 → ad' k = ad k) : z_Amb X ad' A U H := by
  obtain ⟨h1, h2, h3, h4, h5, h6, h7, h9, h8⟩ := h
  have l1 : ∀ (i : Nat) (xs : List Nat), k_SA[i]? = some xs → i < 6 := fun i xs hi => (List.getElem?_eq_some_iff.mp hi).1
  have l2 : ∀ (i : Nat) (xs : List Nat), k_str[i]? = some xs → i < 19 := fun i xs hi => (List.getElem?_eq_some_iff.mp hi).1
  have l3 : ∀ q ∈ k_LT, q.2.2 < 19 := by decide +kernel
  refine ⟨fun i xs hi => ?_, h2, ?_, fun i xs hi => ?_, fun q hq => ?_, h6, h7, h9, fun q e => ?_⟩
  · have := l1 i xs hi
    rw [he (3000 + i) (by omega) (by omega)]
    exact h1 i xs hi
  · rw [he 6000 (by omega) (by omega)]
    exact h3
  · have := l2 i xs hi
    rw [he (2000 + i) (by omega) (by omega), he (5000 + i) (by omega) (by omega)]
    exact h4 i xs hi
  · have := l3 q hq
    rw [he (2000 + q.2.2) (by omega) (by omega)]
    exact h5 q hq
  · rw [he 4000 (by omega) (by omega)]
    exact h8 q e
theorem z_Amb.warm {X : Option (Nat × (Nat → Int32))} {ad : Nat → Nat} {A : Nat → Prop} {s U : State} {H : Heap} (hW : s.WarmedH U.vm) (h : z_Amb X ad A s H) : z_Amb X ad A U H := by
  obtain ⟨h1, h2, h3, h4, h5, h6, h7, h9, h8⟩ := h
  have ha := hW.alike
  refine ⟨fun i xs hi => ⟨(h1 i xs hi).1.moved ha, (h1 i xs hi).2.moved ha⟩, h2.moved ha, ?_, fun i xs hi => ?_, fun q hq => (h5 q hq).warm hW, fun q hq => va_Nw.warmM hW (h6 q hq), fun q hq => va_Nw.warmF hW (h7 q hq), h9.moved ha, fun q e => ?_⟩
  · rcases h3 with h3 | h3
    · exact Or.inl (h3.moved ha)
    · exact Or.inr (h3.moved ha)
  · obtain ⟨g1, g2, g3, g4⟩ := h4 i xs hi
    exact ⟨g1.moved ha, g2.moved ha, g3.moved ha, g4.moved ha⟩
  · obtain ⟨g1, g2, g3⟩ := h8 q e
    exact ⟨g1.moved ha, g2, g3⟩
theorem z_Amb.blind {X : Option (Nat × (Nat → Int32))} {ad : Nat → Nat} {A : Nat → Prop} {U V : State} {H : Heap} (hv : V.vm = U.vm) (h : z_Amb X ad A U H) : z_Amb X ad A V H := by
  obtain ⟨h1, h2, h3, h4, h5, h6, h7, h9, h8⟩ := h
  have ha : U.vm.Alike V.vm := by rw [hv]; exact Vm.Alike.refl U.vm
  refine ⟨fun i xs hi => ⟨(h1 i xs hi).1.moved ha, (h1 i xs hi).2.moved ha⟩, h2.moved ha, ?_, fun i xs hi => ?_, fun q hq => (h5 q hq).same hv, fun q hq => va_Nw.same rfl hv.symm (h6 q hq), fun q hq => va_Nw.same rfl hv.symm (h7 q hq), h9.moved ha, fun q e => ?_⟩
  · rcases h3 with h3 | h3
    · exact Or.inl (h3.moved ha)
    · exact Or.inr (h3.moved ha)
  · obtain ⟨g1, g2, g3, g4⟩ := h4 i xs hi
    exact ⟨g1.moved ha, g2.moved ha, g3.moved ha, g4.moved ha⟩
  · obtain ⟨g1, g2, g3⟩ := h8 q e
    exact ⟨g1.moved ha, g2, g3⟩
/-! the forcing forms are what they force -/
theorem z_setK_eq {α : Type} : ∀ (l : List α) (n : Nat) (x : α) (k : List α → Prop), z_setK l n x k = k (z_set l n x) := by
  intro l
  induction l with
  | nil => intro n x k; rfl
  | cons a l ih =>
    intro n x k
    cases n with
    | zero => rfl
    | succ n => simp only [z_setK, ih, z_set]
theorem z_snocK_eq {α : Type} : ∀ (l : List α) (x : α) (k : List α → Prop), z_snocK l x k = k (l ++ [x]) := by
  intro l
  induction l with
  | nil => intro x k; rfl
  | cons a l ih => intro x k; simp only [z_snocK, ih, List.cons_append]
theorem z_nums_eq : z_nums = List.range 200 := by decide +kernel
theorem z_nums_at {n k : Nat} (h : z_nums[n]? = some k) : k = n := by
  rw [z_nums_eq] at h
  have h1 := (List.getElem?_eq_some_iff.mp h).1
  rw [List.length_range] at h1
  rw [List.getElem?_range h1] at h
  exact (Option.some.inj h).symm
theorem z_lenO_drop {α : Type} : ∀ (l : List α) (is : List Nat) (n : Nat), z_lenO l is = some n → is[l.length]? = some n := by
  intro l
  induction l with
  | nil => intro is n h; cases is with
    | nil => cases h
    | cons i is => simpa [z_lenO] using h
  | cons a l ih => intro is n h; cases is with
    | nil => cases h
    | cons i is => simpa using ih is n h
theorem z_lenO_spec {α : Type} {l : List α} {n : Nat} (h : z_lenO l z_nums = some n) : n = l.length := z_nums_at (z_lenO_drop l z_nums n h)
theorem z_cvK_eq {gK : Nat → (Nat → Prop) → Prop} {g : Nat → Nat} (hg : ∀ i k, gK i k = k (g i)) (v : Value) (k : Value → Prop) : z_cvK gK v k = k (z_cv g v) := by
  cases v <;> first | rfl | exact hg _ _
theorem z_vsK_eq {gK : Nat → (Nat → Prop) → Prop} {g : Nat → Nat} (hg : ∀ i k, gK i k = k (g i)) : ∀ (vs : List Value) (k : List Value → Prop), z_vsK gK vs k = k (vs.map (z_cv g)) := by
  intro vs
  induction vs with
  | nil => intro k; rfl
  | cons v vs ih => intro k; simp only [z_vsK, z_cvK_eq hg, ih, List.map_cons]
theorem z_rsK_eq {gK : Nat → (Nat → Prop) → Prop} {g : Nat → Nat} (hg : ∀ i k, gK i k = k (g i)) : ∀ (rs : List (Option Nat)) (k : List (Option Nat) → Prop), z_rsK gK rs k = k (rs.map (Option.map g)) := by
  intro rs
  induction rs with
  | nil => intro k; rfl
  | cons o rs ih => intro k; cases o <;> simp only [z_rsK, hg, ih, List.map_cons, Option.map_some, Option.map_none]
theorem z_ceK_eq {gK : Nat → (Nat → Prop) → Prop} {g : Nat → Nat} (hg : ∀ i k, gK i k = k (g i)) (c : AE) (k : AE → Prop) : z_ceK gK c k = k (z_ce g c) := by
  rcases c with a | rs | ⟨ci, fs⟩
  · rfl
  · simp only [z_ceK, z_rsK_eq hg, z_ce]
  · simp only [z_ceK, z_vsK_eq hg, z_ce]
theorem z_appK_eq : ∀ (σ τ : List AE) (k : List AE → Prop), z_appK σ τ k = k (σ ++ τ) := by
  intro σ
  induction σ with
  | nil => intro τ k; rfl
  | cons c σ ih => intro τ k; simp only [z_appK, ih, List.cons_append]
theorem z_mapK_eq {gK : Nat → (Nat → Prop) → Prop} {g : Nat → Nat} (hg : ∀ i k, gK i k = k (g i)) : ∀ (σ : List AE) (k : List AE → Prop), z_mapK gK σ k = k (σ.map (z_ce g)) := by
  intro σ
  induction σ with
  | nil => intro k; rfl
  | cons c σ ih => intro k; simp only [z_mapK, z_ceK_eq hg, ih, List.map_cons]
theorem z_wbK_eq {gK : Nat → (Nat → Prop) → Prop} {g : Nat → Nat} (hg : ∀ i k, gK i k = k (g i)) : ∀ (ρ : List Nat) (σ σl : List AE) (k : List AE → Prop), z_wbK gK ρ σ σl k = k (z_wb g ρ σ σl) := by
  intro ρ
  induction ρ with
  | nil => intro σ σl k; simp only [z_wbK, z_mapK_eq hg, z_appK_eq, z_wb]
  | cons r ρ ih =>
    intro σ σl k
    cases σl with
    | nil => rfl
    | cons c σl => simp only [z_wbK, z_ceK_eq hg, z_setK_eq, ih, z_wb]
theorem z_ivK_eq (ρ : List Nat) : ∀ (g : Nat) (k : Nat → Prop), z_ivK ρ g k = k (z_iv ρ g) := by
  intro g k
  unfold z_ivK z_iv
  cases Nat.ble 1000 g with
  | false => simp only; cases z_ix ρ z_nums g <;> rfl
  | true => simp only; cases Nat.ble 10000 g <;> rfl
theorem z_fwK_eq (ρ : List Nat) (N : Nat) : ∀ (i : Nat) (k : Nat → Prop), z_fwK ρ N i k = k (z_fw ρ N i) := by
  intro i k
  unfold z_fwK z_fw
  cases Nat.ble 1000 i with
  | false => simp only; cases z_nth ρ i <;> rfl
  | true =>
    simp only
    cases Nat.ble 10000 i with
    | false => rfl
    | true => simp only; cases Nat.ble N (i - 10000) && Nat.blt (i - 10000) 1000 <;> rfl
theorem z_pushK_eq {gK : Nat → (Nat → Prop) → Prop} {g : Nat → Nat} (hg : ∀ i k, gK i k = k (g i)) (r : Option Value) (st : List Value) (k : List Value → Prop) : z_pushK gK r st k = k (z_push g r st) := by
  cases r with
  | none => rfl
  | some v => simp only [z_pushK, z_cvK_eq hg, z_push]
theorem z_ent_spec : ∀ (n : Nat) (vs : List Value) (k : LC → Prop), z_ent vs n k → ∃ m, k (z_lay vs ++ List.replicate m none) ∧ (z_lay vs).length + m = n := by
  intro n
  induction n using Nat.strongRecOn with
  | ind n ih =>
    intro vs k h
    cases vs with
    | nil =>
      cases n with
      | zero => exact ⟨0, h, rfl⟩
      | succ n =>
        obtain ⟨m, h1, h2⟩ := ih n (Nat.lt_succ_self n) [] _ h
        exact ⟨m + 1, h1, by simp [z_lay] at h2 ⊢; omega⟩
    | cons v vs =>
      cases n with
      | zero => cases v <;> exact h.elim
      | succ n =>
        cases v with
        | int x => obtain ⟨m, h1, h2⟩ := ih n (Nat.lt_succ_self n) vs _ h; exact ⟨m, h1, by simp [z_lay]; omega⟩
        | ref x => obtain ⟨m, h1, h2⟩ := ih n (Nat.lt_succ_self n) vs _ h; exact ⟨m, h1, by simp [z_lay]; omega⟩
        | null => obtain ⟨m, h1, h2⟩ := ih n (Nat.lt_succ_self n) vs _ h; exact ⟨m, h1, by simp [z_lay]; omega⟩
        | long x =>
          cases n with
          | zero => exact h.elim
          | succ n => obtain ⟨m, h1, h2⟩ := ih n (by omega) vs _ h; exact ⟨m, h1, by simp [z_lay]; omega⟩
        | _ => exact h.elim
