/-! the methods' table -/
theorem z_mTake : k_mL.take k_nM = k_mL0 ++ (k_mL1 ++ (k_mL2 ++ (k_mL3 ++ (k_mL4 ++ (k_mL5 ++ k_mL6.take 39))))) := by
  have e : k_mL = (k_mL0 ++ (k_mL1 ++ (k_mL2 ++ (k_mL3 ++ (k_mL4 ++ k_mL5))))) ++ k_mL6 := by simp only [k_mL, List.append_assoc]
  have hl : (k_mL0 ++ (k_mL1 ++ (k_mL2 ++ (k_mL3 ++ (k_mL4 ++ k_mL5))))).length = 240 := by decide +kernel
  rw [e, List.take_append, hl, List.take_of_length_le (by rw [hl]; decide)]
  simp only [List.append_assoc]
  rfl
theorem z_mLen : k_mL.length = 280 := by decide +kernel
theorem z_mAt {t : Nat} (h : t < k_nM) : k_m t ∈ k_mL.take k_nM := by
  have h1 : t < k_mL.length := by rw [z_mLen]; exact Nat.lt_trans h (by decide)
  have h2 : k_mL[t]? = some (k_m t) := by
    unfold k_m
    rw [List.getD_eq_getElem?_getD, List.getElem?_eq_getElem h1]
    rfl
  refine List.mem_of_getElem? (i := t) ?_
  rw [List.getElem?_take_of_lt h]
  exact h2
theorem z_mCode {t : Nat} (h : t < k_nM) : Jvm.Cond.code (k_y t) (k_co t) (k_nL t) (k_re t) ∈ z_U := by
  refine z_inU ?_ rfl
  have h1 := z_mAt h
  rw [z_mTake] at h1
  have key : k_cC (k_m t) ∈ lw_tbl := by
    simp only [List.mem_append] at h1
    rcases h1 with h1 | h1 | h1 | h1 | h1 | h1 | h1
    · exact k_mc0 _ h1
    · exact k_mc1 _ h1
    · exact k_mc2 _ h1
    · exact k_mc3 _ h1
    · exact k_mc4 _ h1
    · exact k_mc5 _ h1
    · exact k_mc6 _ h1
  exact key
theorem z_mTab : ∀ t, t < k_nM → k_ci t < 18 ∧ k_nL t ≤ 20 ∧ k_cn (k_ci t) ≠ "java/lang/invoke/MethodHandle" ∧ k_cn (k_ci t) ≠ "java/lang/invoke/VarHandle" ∧ (parseMethodDescriptor (k_y t).desc).map (fun d => d.parameters.length) = some (if k_ki t = 1 then k_na t else k_na t - 1) ∧ 1 ≤ k_na t + k_ki t := by
  have h : (List.range k_nM).all (fun t => decide (k_ci t < 18 ∧ k_nL t ≤ 20 ∧ k_cn (k_ci t) ≠ "java/lang/invoke/MethodHandle" ∧ k_cn (k_ci t) ≠ "java/lang/invoke/VarHandle" ∧ (parseMethodDescriptor (k_y t).desc).map (fun d => d.parameters.length) = some (if k_ki t = 1 then k_na t else k_na t - 1) ∧ 1 ≤ k_na t + k_ki t)) = true := by decide +kernel
  intro t ht
  exact of_decide_eq_true (List.all_eq_true.mp h t (List.mem_range.mpr ht))
theorem z_kiV : ∀ t ∈ k_LV, k_ki t = 0 := by decide +kernel
theorem z_kiS : ∀ t ∈ k_LST, k_ki t = 1 := by decide +kernel
theorem z_kiI : ∀ t ∈ k_LI, k_ki t = 2 → (k_y t).name = "<init>" ∧ k_re t = none := by decide +kernel
theorem z_goodU {ws : List Cond} (h : ∀ w ∈ ws, w ∈ z_U) : GoodIn z_U ws := fun w hw => ⟨h w hw, good_of_word (List.mem_filter.mp (h w hw)).2⟩
theorem z_wsU2 {t : Nat} (h : t < k_nM) : ∀ w ∈ z_ws t, w ∈ z_U := by
  intro w hw
  rcases List.mem_cons.mp hw with rfl | hw
  · exact z_mCode h
  · exact hw
section ZD
variable {l : Launch} {j rk MC MS n0 : Nat} {X : Option (Nat × (Nat → Int32))} {Post : Option Value → List AE → Prop} {pc : Nat} {L : LC} {st : List Value} {σ : List AE} {ce sl : Nat}
theorem z_stk (ad : Nat → Nat) (as rest : List Value) : (as.reverse ++ rest).map (z_cv ad) = (as.map (z_cv ad)).reverse ++ rest.map (z_cv ad) := by simp
theorem s_callS {x t : Nat} {as rest : List Value} {K : List Value → List AE → Nat → Nat → Prop} (hd : decode (k_co j) pc = .ok (.invokestatic x, 3)) (hq : (k_ci j, x, t) ∈ k_LM ∨ (k_ci j, x, t) ∈ k_LMN) (ht : t < k_nM) (hst : t ∈ k_LST) (hna : as.length = k_na t)
    (h : z_call l rk MC MS t L as rest σ ce sl K) (hK : ∀ st σ ce sl, K st σ ce sl → AW l j rk MC MS n0 X Post (pc + 3) L st σ ce sl) : AW l j rk MC MS n0 X Post pc L (as.reverse ++ rest) σ ce sl := by
  intro p e s m args below meth c D cy ad0 A C ad ls H locs hag hn hle hlt hl hP hD hS
  obtain ⟨hx, hb, hml, hr, hlo, hin, hown, hts, hKK, hE, hA⟩ := id C
  obtain ⟨t1, t2, t3, t4, t5, -⟩ := z_mTab t ht
  rw [if_pos (z_kiS t hst)] at t5
  refine z_core C hag hn hle hlt hl hP hD hS h hK ?_
  intro rk' mc ms Pc Qc free hM r1 r2 r3 r4 r5 r6
  have hini := hts _ (z_inU (k_ln (k_ci t) (List.mem_range.mpr t1)) rfl)
  have hstw := z_inU (k_lst t hst) rfl
  have hroom : (z_rm rk' mc ms).frames + 1 ≤ (z_rm rk MC MS).frames ∧ 8 + (k_nL t + 11) + (z_rm rk' mc ms).locals ≤ (z_rm rk MC MS).locals := by
    simp only [z_rm]; omega
  have hcat : 2 * (F0 m pc ls ((as.reverse ++ rest).map (z_cv ad))).monitorRoom + ((rest.map (z_cv ad)).map fun v => v.category).sum ≤ 8 := lv_room (by rw [z_cs_eq]; exact r4)
  rcases hq with hq | hq
  · have hlk := z_inU (k_lm _ hq) rfl
    refine va_runS (Ts := z_U) ⟨hx, hb, hml, hown, hts⟩ hM (va_cwS (k_na t) hts (z_goodU (fun w hw => ?_)) rfl rfl rfl ⟨t3, t4, t5⟩ hroom) ⟨r5, r6⟩ rfl (by simpa using hna) hl.1 (z_stk ad as rest) hcat hd ⟨r2, r3⟩
    simp only [va_wsS, List.mem_append, List.mem_cons, List.not_mem_nil, or_false] at hw
    rcases hw with (rfl | rfl | rfl) | hw
    · exact hlk
    · exact hstw
    · exact z_inU (k_ln (k_ci t) (List.mem_range.mpr t1)) rfl
    · exact z_wsU2 ht w hw
  · have hnw := hE.2.2.2.2.2.1 _ hq
    exact va_runSN (Ts := z_U) ⟨hx, hb, hml, hown, hts⟩ hM ⟨va_cnB (k_na t) hts (z_goodU (z_wsU2 ht)) rfl rfl rfl hnw hini ⟨t3, t4, t5⟩ hroom, hts _ hstw, trivial⟩ ⟨r5, r6⟩ rfl (by simpa using hna) hl.1 (z_stk ad as rest) hcat hd ⟨r2, r3⟩
theorem s_callI {x t b : Nat} {as rest : List Value} {K : List Value → List AE → Nat → Nat → Prop} (hd : decode (k_co j) pc = .ok (.invokespecial x, 3)) (hq : (k_ci j, x, t) ∈ k_LM) (ht : t < k_nM) (hst : t ∈ k_LI) (hki : k_ki t = 2) (hna : as.length + 1 = k_na t)
    (h : z_call l rk MC MS t L (.ref b :: as) rest σ ce sl K) (hK : ∀ st σ ce sl, K st σ ce sl → AW l j rk MC MS n0 X Post (pc + 3) L st σ ce sl) : AW l j rk MC MS n0 X Post pc L ((.ref b :: as).reverse ++ rest) σ ce sl := by
  intro p e s m args below meth c D cy ad0 A C ad ls H locs hag hn hle hlt hl hP hD hS
  obtain ⟨hx, hb, hml, hr, hlo, hin, hown, hts, hKK, hE, hA⟩ := id C
  obtain ⟨t1, t2, t3, t4, t5, -⟩ := z_mTab t ht
  rw [if_neg (by omega)] at t5
  obtain ⟨n1, n2⟩ := z_kiI t hst hki
  refine z_core C hag hn hle hlt hl hP hD hS h hK ?_
  intro rk' mc ms Pc Qc free hM r1 r2 r3 r4 r5 r6
  have hroom : (z_rm rk' mc ms).frames + 1 ≤ (z_rm rk MC MS).frames ∧ 8 + (k_nL t + 11) + (z_rm rk' mc ms).locals ≤ (z_rm rk MC MS).locals := by
    simp only [z_rm]; omega
  have hcat : 2 * (F0 m pc ls (((Value.ref b :: as).reverse ++ rest).map (z_cv ad))).monitorRoom + ((rest.map (z_cv ad)).map fun v => v.category).sum ≤ 8 := lv_room (by rw [z_cs_eq]; exact r4)
  refine va_runI (Ts := z_U) (b := ad b) (As := as.map (z_cv ad)) (bytes := k_co t) (maxL := k_nL t) ⟨hx, hb, hml, hown, hts⟩ hM (cwI (k_na t - 1) hts (z_goodU (z_wsU2 ht)) (by rw [z_ws, n2]) rfl rfl (hts _ (z_inU (k_ln (k_ci t) (List.mem_range.mpr t1)) rfl)) (hts _ (z_inU (k_lm _ hq) rfl)) (hts _ (z_inU (k_li t hst) rfl)) n1 ⟨t3, t4, t5⟩ hroom) ⟨r5, r6⟩ rfl (by simp; omega) hl.1 (by simp [z_cv]) hcat hd ⟨r2, r3⟩
theorem s_callV {x t b : Nat} {as rest : List Value} {K : List Value → List AE → Nat → Nat → Prop} (hd : decode (k_co j) pc = .ok (.invokevirtual x, 3)) (hq : (k_ci j, x, t) ∈ k_LM) (ht : t < k_nM) (hst : t ∈ k_LV) (hsi : t ∈ k_LI) (hna : as.length + 1 = k_na t) (hrc : z_rcv σ (.ref b) (k_ci t) = true)
    (h : z_call l rk MC MS t L (.ref b :: as) rest σ ce sl K) (hK : ∀ st σ ce sl, K st σ ce sl → AW l j rk MC MS n0 X Post (pc + 3) L st σ ce sl) : AW l j rk MC MS n0 X Post pc L ((.ref b :: as).reverse ++ rest) σ ce sl := by
  intro p e s m args below meth c D cy ad0 A C ad ls H locs hag hn hle hlt hl hP hD hS
  obtain ⟨hx, hb, hml, hr, hlo, hin, hown, hts, hKK, hE, hA⟩ := id C
  obtain ⟨t1, t2, t3, t4, t5, -⟩ := z_mTab t ht
  rw [if_neg (by rw [z_kiV t hst]; omega)] at t5
  have hrecv : ∃ cellB : Cell, H[ad b]? = some cellB ∧ cellB.vm.isStatics = false ∧ s.vm.findClass (k_cn (k_ci t)) = some cellB.cls := by
    simp only [z_rcv] at hrc
    cases hb1 : Nat.ble 1000 b with
    | false =>
      rw [hb1] at hrc
      simp only at hrc
      split at hrc
      · next ci fs hz =>
        rw [z_nth_eq] at hz
        have he := z_wc0 (cy := cy) (ad := ad) hz
        obtain ⟨r, hr1, -⟩ := hP b _ he
        have hci := Nat.eq_of_beq_eq_true hrc
        obtain ⟨-, -, -, c4, -⟩ := z_clok hr1
        rw [← hci, ← c4]
        exact va_recv hKK hP hr1 he
      · cases hrc
    | true =>
      rw [hb1] at hrc
      simp only [Bool.and_eq_true, Nat.ble_eq, Nat.blt_eq] at hrc
      obtain ⟨g1, g2, g3⟩ := hrc
      have hci := Nat.eq_of_beq_eq_true g1
      obtain ⟨xs, hxs⟩ : ∃ xs, k_str[b - 2000]? = some xs := ⟨_, List.getElem?_eq_getElem (by show b - 2000 < 19; omega)⟩
      have hO := (hE.2.2.2.1 _ xs hxs).1
      rw [show 2000 + (b - 2000) = b by omega, ← hag b (Or.inr (by omega))] at hO
      obtain ⟨cell, q1, q2, q3, -⟩ := hO.kept hS.2.1
      rw [hci]
      exact ⟨cell, q1, q2, q3⟩
  refine z_core C hag hn hle hlt hl hP hD hS h hK ?_
  intro rk' mc ms Pc Qc free hM r1 r2 r3 r4 r5 r6
  have hroom : (z_rm rk' mc ms).frames + 1 ≤ (z_rm rk MC MS).frames ∧ 8 + (k_nL t + 11) + (z_rm rk' mc ms).locals ≤ (z_rm rk MC MS).locals := by
    simp only [z_rm]; omega
  have hcat : 2 * (F0 m pc ls (((Value.ref b :: as).reverse ++ rest).map (z_cv ad))).monitorRoom + ((rest.map (z_cv ad)).map fun v => v.category).sum ≤ 8 := lv_room (by rw [z_cs_eq]; exact r4)
  have hlk := z_inU (k_lm _ hq) rfl
  refine va_runV (Ts := z_U) (C := k_cn (k_ci t)) (b := ad b) (As := as.map (z_cv ad)) ⟨hx, hb, hml, hown, hts⟩ hM (cwV (k_na t - 1) hts (z_goodU (fun w hw => ?_)) rfl rfl rfl ⟨rfl, t3, t4, t5⟩ hroom) ⟨r5, hrecv, r6⟩ rfl (by simp; omega) hl.1 (by simp [z_cv]) hcat hd ⟨r2, r3⟩
  simp only [wsV, List.mem_append, List.mem_cons, List.not_mem_nil, or_false] at hw
  rcases hw with (rfl | rfl | rfl | rfl) | hw
  · exact hlk
  · exact z_inU (k_li t hsi) rfl
  · exact z_inU (k_lv_ t hst) rfl
  · exact z_inU (k_ln (k_ci t) (List.mem_range.mpr t1)) rfl
  · exact z_wsU2 ht w hw
end ZD
