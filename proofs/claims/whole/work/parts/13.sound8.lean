section ZW
variable {l : Launch} {j rk MC MS n0 : Nat} {X : Option (Nat × (Nat → Int32))} {Post : Option Value → List AE → Prop} {pc : Nat} {L : LC} {st : List Value} {σ : List AE} {ce sl : Nat}
theorem z_elem {α : Type} [BEq α] [LawfulBEq α] {a : α} {l : List α} (h : l.elem a = true) : a ∈ l := List.elem_iff.mp h
theorem z_bor {a b : Bool} (h : (a || b) = true) : a = true ∨ b = true := by simpa using h
theorem z_band {a b : Bool} (h : (a && b) = true) : a = true ∧ b = true := by simpa using h
theorem z_sub {a b : Nat} (h : b ≤ a) : ∃ i, a = b + i := ⟨a - b, by omega⟩
theorem z_strI {i : Nat} (h : 2000 + i < 2019) : ∃ xs, k_str[i]? = some xs := ⟨_, List.getElem?_eq_getElem (by show i < 19; omega)⟩
theorem z_35 (i : Nat) : 2000 + i + 3000 = 5000 + i := by omega
theorem z_off_add (b i : Nat) : z_off (b + i) b = i := Nat.add_sub_cancel_left ..
theorem z_narB {v : Int32} (h : v = 0 ∨ v = 1) : narrow .boolean (.int v) = .int v := by rcases h with rfl | rfl <;> rfl
theorem z_fitB {v : Int32} (h : v = 0 ∨ v = 1) : fits .boolean (.int v) = true := by rcases h with rfl | rfl <;> rfl
theorem z_sw_mono {P Q : Nat → Prop} {x : Int32} (hPQ : ∀ t, P t → Q t) : ∀ (os : List Int) (lo : Int), z_sw P pc x lo os → z_sw Q pc x lo os := by
  intro os
  induction os with
  | nil => intro lo _; trivial
  | cons o os ih => intro lo h; exact ⟨fun e => hPQ _ (h.1 e), ih _ h.2⟩
theorem z_lk_mono {P Q : Nat → Prop} {d : Int} {x : Int32} (hPQ : ∀ t, P t → Q t) : ∀ (os : List (Int × Int)), z_lk P pc d x os → z_lk Q pc d x os := by
  intro os
  induction os with
  | nil => intro h; exact hPQ _ h
  | cons o os ih => obtain ⟨a, o⟩ := o; intro h; exact ⟨fun e => hPQ _ (h.1 e), fun e => ih (h.2 e)⟩
set_option maxRecDepth 100000 in
theorem z_al_sound0 {k : KT} {a : Nat} {i : Int32} (hd : decode (k_co j) pc = .ok (.iaload, 1)) (hk : ∀ L st σ ce sl, k L st σ ce sl → AW l j rk MC MS n0 X Post (pc + 1) L st σ ce sl) (h : z_al 0 X σ a i (fun v => k L (.int v :: st) σ ce sl)) : AW l j rk MC MS n0 X Post pc L (.int i :: .ref a :: st) σ ce sl := by
  simp only [z_al, z_nth_eq] at h
  split at h
  · split at h
    · next kd n f hc =>
      split at h
      · next hb => have e := Nat.eq_of_beq_eq_true hb; subst e; exact s_iald hd hc h.1 (hk _ _ _ _ _ h.2)
      · exact h.elim
    · exact h.elim
  · split at h
    · next hb =>
      have e := Nat.eq_of_beq_eq_true hb; subst e
      split at h
      · next q => exact s_scr hd rfl h.1 (hk _ _ _ _ _ h.2)
      · exact h.elim
    · split at h
      · next hb =>
        obtain ⟨b, rfl⟩ := z_sub (Nat.ble_eq.mp hb)
        rw [z_off_add 3000 b] at h
        split at h
        · next xs hxs =>
          exact s_sald hd hxs h.1 (hk _ _ _ _ _ h.2)
        · exact h.elim
      · exact h.elim
set_option maxRecDepth 100000 in
theorem z_al_sound1 {k : KT} {a : Nat} {i : Int32} (hd : decode (k_co j) pc = .ok (.baload, 1)) (hk : ∀ L st σ ce sl, k L st σ ce sl → AW l j rk MC MS n0 X Post (pc + 1) L st σ ce sl) (h : (match Nat.ble 1000 a with
      | false => (match z_nth σ a with
        | some (.inl (kd, n, f)) => (match Nat.beq kd 1 || Nat.beq kd 2 with
          | true => vp_in i n ∧ k L (.int (f i.toNatClampNeg) :: st) σ ce sl
          | false => False)
        | _ => False)
      | true => z_al 1 X σ a i (fun v => k L (.int v :: st) σ ce sl))) : AW l j rk MC MS n0 X Post pc L (.int i :: .ref a :: st) σ ce sl := by
  simp only [z_nth_eq] at h
  split at h
  · split at h
    · next kd n f hc =>
      split at h
      · next hb =>
        refine s_bald hd ?_ hc h.1 (hk _ _ _ _ _ h.2)
        rcases z_bor hb with e | e
        · exact Or.inl (Nat.eq_of_beq_eq_true e)
        · exact Or.inr (Nat.eq_of_beq_eq_true e)
      · exact h.elim
    · exact h.elim
  · next hb1 =>
    simp only [z_al, hb1, z_nth_eq] at h
    split at h
    · next hb =>
      obtain ⟨b, rfl⟩ := z_sub (Nat.ble_eq.mp hb)
      rw [z_off_add 5000 b] at h
      split at h
      · next xs hxs =>
        exact s_tald hd hxs h.1 (hk _ _ _ _ _ h.2)
      · exact h.elim
    · exact h.elim
set_option maxRecDepth 100000 in
theorem z_len_sound {k : KT} {a : Nat} (hd : decode (k_co j) pc = .ok (.arraylength, 1)) (hk : ∀ L st σ ce sl, k L st σ ce sl → AW l j rk MC MS n0 X Post (pc + 1) L st σ ce sl) (h : z_len X σ a (fun v => k L (.int v :: st) σ ce sl)) : AW l j rk MC MS n0 X Post pc L (.ref a :: st) σ ce sl := by
  simp only [z_len, z_nth_eq] at h
  split at h
  · exact h.elim
  · split at h
    · next hb =>
      have e := Nat.eq_of_beq_eq_true hb; subst e
      split at h
      · exact s_slen hd rfl (hk _ _ _ _ _ h.2)
      · exact h.elim
    · split at h
      · next hb =>
        obtain ⟨b, rfl⟩ := z_sub (Nat.ble_eq.mp hb)
        rw [z_off_add 5000 b] at h
        split at h
        · next xs hxs =>
          exact s_tlen hd hxs (hk _ _ _ _ _ h)
        · exact h.elim
      · exact h.elim
theorem z_getf_sound {k : KT} {jm : Nat → KT} {rt : Option Value → List AE → Nat → Nat → Prop} {x t u : Nat} (hd : decode (k_co j) pc = .ok (.getfield x, 3)) (hq : (k_ci j, x, u, t) ∈ k_LF) (hk : ∀ L st σ ce sl, k L st σ ce sl → AW l j rk MC MS n0 X Post (pc + 3) L st σ ce sl) (h : z_step l rk MC MS (k_nL j) X (k_re j) pc (.getfield x) t u L st σ ce sl k jm rt) : AW l j rk MC MS n0 X Post pc L st σ ce sl := by
  simp only [z_step, z_nth_eq] at h
  split at h
  · next a st =>
    split at h
    · split at h
      · next ci fs hc =>
        split at h
        · next hb =>
          have e := Nat.eq_of_beq_eq_true hb; subst e
          split at h
          · next v hv => exact s_getf hd hq hc hv (hk _ _ _ _ _ h)
          · exact h.elim
        · exact h.elim
      · exact h.elim
    · split at h
      · next hb =>
        obtain ⟨b1, b2⟩ := z_band hb
        obtain ⟨b2, b3⟩ := z_band b2
        have e := Nat.eq_of_beq_eq_true b1; subst e
        obtain ⟨b, rfl⟩ := z_sub (Nat.ble_eq.mp b2)
        obtain ⟨xs, hxs⟩ := z_strI (Nat.blt_eq.mp b3)
        split at h
        · rw [z_35] at h
          exact s_sgetf hd hq hxs (Or.inl ⟨rfl, rfl⟩) (hk _ _ _ _ _ h)
        · exact s_sgetf hd hq hxs (Or.inr ⟨rfl, rfl⟩) (hk _ _ _ _ _ h)
        · exact h.elim
      · exact h.elim
  · exact h.elim
theorem z_putf_sound {k : KT} {jm : Nat → KT} {rt : Option Value → List AE → Nat → Nat → Prop} {x t u : Nat} (hd : decode (k_co j) pc = .ok (.putfield x, 3)) (hok : z_ok (k_ci j) (Nat.beq (k_ki j) 2) pc (.putfield x) t u = true) (hk : ∀ L st σ ce sl, k L st σ ce sl → AW l j rk MC MS n0 X Post (pc + 3) L st σ ce sl) (h : z_step l rk MC MS (k_nL j) X (k_re j) pc (.putfield x) t u L st σ ce sl k jm rt) : AW l j rk MC MS n0 X Post pc L st σ ce sl := by
  simp only [z_ok] at hok
  obtain ⟨q1, q2⟩ := z_band hok
  have hq := z_elem q1
  obtain ⟨q2, q3⟩ := z_band q2
  have hfin : ∀ r, k_cl[u]? = some r → (r.2.1 t).2.2.2 = true → k_ki j = 2 ∧ (r.2.1 t).1 = k_cn (k_ci j) := by
    intro r hr ht
    simp only [hr, ht] at q3
    obtain ⟨a1, a2⟩ := z_band q3
    exact ⟨Nat.eq_of_beq_eq_true a1, of_decide_eq_true a2⟩
  simp only [z_step, z_setK_eq, z_nth_eq, z_set_eq] at h
  split at h
  · next v a st =>
    split at h
    · split at h
      · next ci fs hc =>
        split at h
        · next hb =>
          obtain ⟨b1, b2⟩ := z_band hb
          have e := Nat.eq_of_beq_eq_true b1; subst e
          have b2 := Nat.blt_eq.mp b2
          split at h
          · next hty =>
            split at h
            · exact s_putf hd hq hc b2 hfin (fun ad => by rw [hty]; rfl) (fun ad => by rw [hty]; rfl) (hk _ _ _ _ _ h)
            · exact h.elim
          · next hty =>
            split at h
            · exact s_putf hd hq hc b2 hfin (fun ad => by rw [hty]; exact z_narB h.1) (fun ad => by rw [hty]; exact z_fitB h.1) (hk _ _ _ _ _ h.2)
            · exact h.elim
          · next hty =>
            split at h
            · exact s_putf hd hq hc b2 hfin (fun ad => by rw [hty]; rfl) (fun ad => by rw [hty]; rfl) (hk _ _ _ _ _ h)
            · exact h.elim
          · next hty =>
            split at h
            · exact s_putf hd hq hc b2 hfin (fun ad => by rw [hty]; rfl) (fun ad => by rw [hty]; rfl) (hk _ _ _ _ _ h)
            · exact h.elim
          · exact h.elim
        · exact h.elim
      · exact h.elim
    · exact h.elim
  · exact h.elim
theorem z_gets_sound {k : KT} {jm : Nat → KT} {rt : Option Value → List AE → Nat → Nat → Prop} {x t u : Nat} (hd : decode (k_co j) pc = .ok (.getstatic x, 3)) (hok : z_ok (k_ci j) (Nat.beq (k_ki j) 2) pc (.getstatic x) t u = true) (hk : ∀ L st σ ce sl, k L st σ ce sl → AW l j rk MC MS n0 X Post (pc + 3) L st σ ce sl) (h : z_step l rk MC MS (k_nL j) X (k_re j) pc (.getstatic x) t u L st σ ce sl k jm rt) : AW l j rk MC MS n0 X Post pc L st σ ce sl := by
  have hq : (k_ci j, x, t) ∈ k_LS ∨ (k_ci j, x, t) ∈ k_LSN := by
    simp only [z_ok] at hok
    split at hok
    · exact Or.inl (z_elem hok)
    · exact Or.inr (z_elem hok)
  have hn : ∀ q ∈ k_LSN, q.2.2 < 6 := by decide +kernel
  simp only [z_step] at h
  split at h
  · rcases hq with hq | hq
    · exact s_gets6 hd hq (hk _ _ _ _ _ h)
    · exact absurd (hn _ hq) (by show ¬ (6 < 6); decide)
  · rcases hq with hq | hq
    · exact s_gets7 hd hq (hk _ _ _ _ _ h.1) (hk _ _ _ _ _ h.2)
    · exact absurd (hn _ hq) (by show ¬ (7 < 6); decide)
  · split at h
    · next hb =>
      have hb := Nat.blt_eq.mp hb
      exact s_gets hd hq (xs := k_SA[t]'hb) (List.getElem?_eq_getElem hb) (hk _ _ _ _ _ h)
    · exact h.elim
theorem z_args_spec : ∀ (n : Nat) (acc st as rest : List Value), z_args n acc st = some (as, rest) → (acc.reverse ++ st).take (acc.length + n) = as.reverse.take (acc.length + n) ∧ acc.reverse.reverse.length + n = as.length ∧ st = (as.reverse.drop acc.length) ++ rest := by
  intro n
  induction n with
  | zero =>
    intro acc st as rest h
    simp only [z_args, Option.some.injEq, Prod.mk.injEq] at h
    obtain ⟨rfl, rfl⟩ := h
    refine ⟨by rw [List.take_append]; simp, by simp, ?_⟩
    rw [List.drop_of_length_le (by simp)]
    rfl
  | succ n ih =>
    intro acc st as rest h
    cases st with
    | nil => cases h
    | cons v st =>
      obtain ⟨h1, h2, h3⟩ := ih (v :: acc) st as rest h
      simp only [List.length_reverse, List.length_cons] at h2 h3
      refine ⟨?_, by simp; omega, ?_⟩
      · have := h1
        simp only [List.reverse_cons, List.append_assoc, List.length_cons] at this
        rw [show acc.length + (n + 1) = acc.length + 1 + n by omega, ← this]
        rfl
      · have hl : acc.length < as.reverse.length := by simp; omega
        rw [List.drop_eq_getElem_cons hl, List.cons_append, ← h3]
        congr 1
        have h4 : as.reverse[acc.length]? = some v := by
          have : (as.reverse.take ((v :: acc).length + n))[acc.length]? = some v := by
            rw [← h1, List.getElem?_take_of_lt (by simp; omega)]
            simp
          rw [List.getElem?_take_of_lt (by simp; omega)] at this
          exact this
        rw [List.getElem?_eq_getElem hl] at h4
        exact (Option.some.inj h4).symm
theorem z_args_st {n : Nat} {st as rest : List Value} (h : z_args n [] st = some (as, rest)) : st = as.reverse ++ rest ∧ as.length = n := by
  obtain ⟨-, h2, h3⟩ := z_args_spec n [] st as rest h
  simp at h2 h3
  exact ⟨h3, h2.symm⟩
theorem z_LVI : ∀ t ∈ k_LV, t ∈ k_LI := by decide +kernel
theorem z_callV_sound {k : KT} {jm : Nat → KT} {rt : Option Value → List AE → Nat → Nat → Prop} {x t u : Nat} (hd : decode (k_co j) pc = .ok (.invokevirtual x, 3)) (hok : z_ok (k_ci j) (Nat.beq (k_ki j) 2) pc (.invokevirtual x) t u = true) (hk : ∀ L st σ ce sl, k L st σ ce sl → AW l j rk MC MS n0 X Post (pc + 3) L st σ ce sl) (h : z_step l rk MC MS (k_nL j) X (k_re j) pc (.invokevirtual x) t u L st σ ce sl k jm rt) : AW l j rk MC MS n0 X Post pc L st σ ce sl := by
  simp only [z_step] at h
  simp only [z_ok] at hok
  split at h
  · next ht =>
    rw [ht] at hok
    simp only [Bool.not_true, Bool.false_or] at hok
    obtain ⟨o1, o2⟩ := z_band hok
    obtain ⟨o2, o3⟩ := z_band o2
    have o3 := of_decide_eq_true o3
    split at h
    · next v as rest ha =>
      obtain ⟨e1, e2⟩ := z_args_st ha
      split at h
      · next hrc =>
        cases v with
        | ref b =>
          rw [e1]
          exact s_callV hd (z_elem o1) (Nat.blt_eq.mp ht) (z_elem o2) (z_LVI _ (z_elem o2)) (by rw [← o3, ← e2]; rfl) hrc h (fun st σ ce sl q => hk _ _ _ _ _ q)
        | _ => cases hrc
      · exact h.elim
    · exact h.elim
  · exact h.elim
theorem z_callI_sound {k : KT} {jm : Nat → KT} {rt : Option Value → List AE → Nat → Nat → Prop} {x t u : Nat} (hd : decode (k_co j) pc = .ok (.invokespecial x, 3)) (hok : z_ok (k_ci j) (Nat.beq (k_ki j) 2) pc (.invokespecial x) t u = true) (hk : ∀ L st σ ce sl, k L st σ ce sl → AW l j rk MC MS n0 X Post (pc + 3) L st σ ce sl) (h : z_step l rk MC MS (k_nL j) X (k_re j) pc (.invokespecial x) t u L st σ ce sl k jm rt) : AW l j rk MC MS n0 X Post pc L st σ ce sl := by
  simp only [z_step] at h
  simp only [z_ok] at hok
  split at h
  · next ht =>
    rw [ht] at hok
    simp only at hok
    obtain ⟨o1, o2⟩ := z_band hok
    obtain ⟨o2, o3⟩ := z_band o2
    obtain ⟨o3, o4⟩ := z_band o3
    have o4 := of_decide_eq_true o4
    split at h
    · next v as rest ha =>
      obtain ⟨e1, e2⟩ := z_args_st ha
      rw [e1]
      exact s_callI hd (z_elem o1) (Nat.blt_eq.mp ht) (z_elem o2) (of_decide_eq_true o3) (by rw [← o4, ← e2]; rfl) h (fun st σ ce sl q => hk _ _ _ _ _ q)
    · exact h.elim
  · next ht =>
    rw [ht] at hok
    simp only at hok
    split at h
    · split at h
      · split at h
        · next hz =>
          rcases z_bor hok with o | o
          · exact s_objInit hd (z_elem o) (Nat.ble_eq.mp hz) (hk _ _ _ _ _ h)
          · exact absurd (of_decide_eq_true o) (by decide)
        · exact h.elim
      · exact h.elim
    · exact h.elim
theorem z_callS_sound {k : KT} {jm : Nat → KT} {rt : Option Value → List AE → Nat → Nat → Prop} {x t u : Nat} (hd : decode (k_co j) pc = .ok (.invokestatic x, 3)) (hok : z_ok (k_ci j) (Nat.beq (k_ki j) 2) pc (.invokestatic x) t u = true) (hk : ∀ L st σ ce sl, k L st σ ce sl → AW l j rk MC MS n0 X Post (pc + 3) L st σ ce sl) (h : z_step l rk MC MS (k_nL j) X (k_re j) pc (.invokestatic x) t u L st σ ce sl k jm rt) : AW l j rk MC MS n0 X Post pc L st σ ce sl := by
  simp only [z_step, z_setK_eq, z_nth_eq, z_set_eq] at h
  simp only [z_ok] at hok
  split at h
  · next ht =>
    rw [ht] at hok
    simp only at hok
    obtain ⟨o1, o2⟩ := z_band hok
    obtain ⟨o2, o3⟩ := z_band o2
    have o3 := of_decide_eq_true o3
    split at h
    · next as rest ha =>
      obtain ⟨e1, e2⟩ := z_args_st ha
      rw [e1]
      refine s_callS hd ?_ (Nat.blt_eq.mp ht) (z_elem o2) (by rw [← o3, ← e2]) h (fun st σ ce sl q => hk _ _ _ _ _ q)
      rcases z_bor o1 with o | o
      · exact Or.inl (z_elem o)
      · exact Or.inr (z_elem o)
    · exact h.elim
  · next ht =>
    rw [ht] at hok
    simp only at hok
    have hx : t ≠ 9999 → (k_ci j, x, t) ∈ k_LX := by
      intro ne
      rcases z_bor hok with o | o
      · exact z_elem o
      · exact absurd (of_decide_eq_true o) ne
    split at h
    · split at h
      · split at h
        · next hz =>
          obtain ⟨z1, z2⟩ := z_band hz
          obtain ⟨z2, z3⟩ := z_band z2
          exact s_max hd (hx (by decide)) (Nat.ble_eq.mp z1) (Nat.ble_eq.mp z2) (Nat.ble_eq.mp z3) (hk _ _ _ _ _ h)
        · exact h.elim
      · exact h.elim
    · split at h
      · split at h
        · next hz =>
          obtain ⟨z1, z2⟩ := z_band hz
          obtain ⟨z2, z3⟩ := z_band z2
          exact s_min hd (hx (by decide)) (Nat.ble_eq.mp z1) (Nat.ble_eq.mp z2) (Nat.ble_eq.mp z3) (hk _ _ _ _ _ h)
        · exact h.elim
      · exact h.elim
    · split at h
      · split at h
        · next hz =>
          simp only [Bool.or_eq_false_iff] at hz
          have hz1 : z_cs _ ≤ 8 := Nat.not_lt.mp (fun q => by rw [Nat.blt_eq.mpr q] at hz; exact absurd hz.2.2 (by decide))
          split at h
          · next k0 m0 f hc0 =>
            split at h
            · next k1 m1 g hc1 =>
              split at h
              · next hb =>
                obtain ⟨b1, b2⟩ := z_band hb
                have e1 := Nat.eq_of_beq_eq_true b1; subst e1
                have e2 := Nat.eq_of_beq_eq_true b2; subst e2
                obtain ⟨h1, h2, h3, h4, h5, h6⟩ := h
                exact s_copy hd (hx (by decide)) hz1 hc0 hc1 h1 h2 h3 h4 h5 (hk _ _ _ _ _ h6)
              · exact h.elim
            · exact h.elim
          · exact h.elim
        · exact h.elim
      · exact h.elim
    · exact h.elim
theorem z_new_sound {k : KT} {jm : Nat → KT} {rt : Option Value → List AE → Nat → Nat → Prop} {x t u : Nat} (hd : decode (k_co j) pc = .ok (.new x, 3)) (hok : z_ok (k_ci j) (Nat.beq (k_ki j) 2) pc (.new x) t u = true) (hk : ∀ L st σ ce sl, k L st σ ce sl → AW l j rk MC MS n0 X Post (pc + 3) L st σ ce sl) (h : z_step l rk MC MS (k_nL j) X (k_re j) pc (.new x) t u L st σ ce sl k jm rt) : AW l j rk MC MS n0 X Post pc L st σ ce sl := by
  simp only [z_step, z_nth_eq] at h
  simp only [z_ok] at hok
  obtain ⟨o1, o2⟩ := z_band hok
  have o2 := Nat.blt_eq.mp o2
  obtain ⟨r, hr⟩ : ∃ r, k_cl[u]? = some r := ⟨_, List.getElem?_eq_getElem (by show u < 11; exact o2)⟩
  split at h
  · next hb =>
    obtain ⟨b1, b2⟩ := z_band hb
    obtain ⟨b2, b3⟩ := z_band b2
    split at h
    · next fs hfs =>
      have e1 : k_new.getD u [] = fs := by rw [List.getD_eq_getElem?_getD, hfs]; rfl
      have e2 := z_newN u r hr
      rw [e1] at e2
      split at h
      · next hb2 =>
        split at h
        · next n hn =>
          have e3 := z_lenO_spec hn
          subst e3
          rw [z_snocK_eq, e2] at h
          refine s_new hd (z_elem o1) hr (Nat.ble_eq.mp b1) ?_ (Nat.ble_eq.mp b2) b3 ?_
          · have := Nat.ble_eq.mp hb2
            rw [e2] at this
            exact this
          · rw [e1]
            exact hk _ _ _ _ _ h
        · exact h.elim
      · exact h.elim
    · exact h.elim
  · exact h.elim
theorem z_newa_sound {k : KT} {jm : Nat → KT} {rt : Option Value → List AE → Nat → Nat → Prop} {x : ArrayType} {t u : Nat} (hd : decode (k_co j) pc = .ok (.newarray x, 2)) (hok : z_ok (k_ci j) (Nat.beq (k_ki j) 2) pc (.newarray x) t u = true) (hk : ∀ L st σ ce sl, k L st σ ce sl → AW l j rk MC MS n0 X Post (pc + 2) L st σ ce sl) (h : z_step l rk MC MS (k_nL j) X (k_re j) pc (.newarray x) t u L st σ ce sl k jm rt) : AW l j rk MC MS n0 X Post pc L st σ ce sl := by
  simp only [z_step] at h
  split at h
  · obtain ⟨N, rfl, hN, hs, h⟩ := h
    split at h
    · next hb =>
      obtain ⟨b1, b2⟩ := z_band hb
      obtain ⟨b2, b3⟩ := z_band b2
      simp only [z_ok] at hok
      split at h
      · next n hn =>
        have e3 := z_lenO_spec hn
        subst e3
        rw [z_snocK_eq] at h
        split at hok
        · exact s_newa hd rfl (fun _ => rfl) (z_inU (k_lxx 9 (by decide)) rfl) rfl (by decide) hN (Nat.ble_eq.mp b1) hs (Nat.ble_eq.mp b2) b3 (hk _ _ _ _ _ h)
        · exact s_newa hd rfl (fun _ => rfl) (z_inU (k_lxx 10 (by decide)) rfl) rfl (by decide) hN (Nat.ble_eq.mp b1) hs (Nat.ble_eq.mp b2) b3 (hk _ _ _ _ _ h)
        · exact s_newa hd rfl (fun _ => rfl) (z_inU (k_lxx 11 (by decide)) rfl) rfl (by decide) hN (Nat.ble_eq.mp b1) hs (Nat.ble_eq.mp b2) b3 (hk _ _ _ _ _ h)
        · cases hok
      · exact h.elim
    · exact h.elim
  · exact h.elim
theorem z_newq_sound {k : KT} {jm : Nat → KT} {rt : Option Value → List AE → Nat → Nat → Prop} {x t u : Nat} (hd : decode (k_co j) pc = .ok (.anewarray x, 3)) (hok : z_ok (k_ci j) (Nat.beq (k_ki j) 2) pc (.anewarray x) t u = true) (hk : ∀ L st σ ce sl, k L st σ ce sl → AW l j rk MC MS n0 X Post (pc + 3) L st σ ce sl) (h : z_step l rk MC MS (k_nL j) X (k_re j) pc (.anewarray x) t u L st σ ce sl k jm rt) : AW l j rk MC MS n0 X Post pc L st σ ce sl := by
  simp only [z_step] at h
  split at h
  · obtain ⟨N, rfl, hN, hs, h⟩ := h
    split at h
    · next hb =>
      obtain ⟨b1, b2⟩ := z_band hb
      obtain ⟨b2, b3⟩ := z_band b2
      split at h
      · next n hn =>
        have e3 := z_lenO_spec hn
        subst e3
        rw [z_snocK_eq] at h
        exact s_newq hd (z_elem hok) hN (Nat.ble_eq.mp b1) hs (Nat.ble_eq.mp b2) b3 (hk _ _ _ _ _ h)
      · exact h.elim
    · exact h.elim
  · exact h.elim
end ZW
