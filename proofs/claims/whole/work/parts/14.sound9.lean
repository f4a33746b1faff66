section ZX
variable {l : Launch} {j rk MC MS n0 : Nat} {X : Option (Nat × (Nat → Int32))} {Post : Option Value → List AE → Prop} {pc : Nat} {L : LC} {st : List Value} {σ : List AE} {ce sl : Nat}
set_option maxHeartbeats 4000000 in
theorem z_step_sound {i : Instr} {len t u nx : Nat} {k : KT} {jm : Nat → KT} {rt : Option Value → List AE → Nat → Nat → Prop} (hd : decode (k_co j) pc = .ok (i, len)) (hnx : nx = pc + len) (hln : z_iln i len = true) (hok : z_ok (k_ci j) (Nat.beq (k_ki j) 2) pc i t u = true)
    (hk : ∀ L st σ ce sl, k L st σ ce sl → AW l j rk MC MS n0 X Post nx L st σ ce sl) (hj : ∀ t L st σ ce sl, jm t L st σ ce sl → AW l j rk MC MS n0 X Post t L st σ ce sl) (hr : ∀ r σ ce sl, rt r σ ce sl → ce ≤ MC ∧ sl ≤ MS ∧ z_okR r σ = true ∧ Post r σ)
    (h : z_step l rk MC MS (k_nL j) X (k_re j) pc i t u L st σ ce sl k jm rt) : AW l j rk MC MS n0 X Post pc L st σ ce sl := by
  subst hnx
  cases i with
  | iload_n n =>
    have e := Nat.eq_of_beq_eq_true hln; subst e
    simp only [z_step, z_ldi, z_nth_eq] at h
    split at h
    · next v hv => exact s_iload_n hd hv (hk _ _ _ _ _ h)
    · exact h.elim
  | lload_n n =>
    have e := Nat.eq_of_beq_eq_true hln; subst e
    simp only [z_step, z_ldl, z_nth_eq] at h
    split at h
    · next v hv => exact s_lload_n hd hv (hk _ _ _ _ _ h)
    · exact h.elim
  | iload n =>
    have e := Nat.eq_of_beq_eq_true hln; subst e
    simp only [z_step, z_ldi, z_nth_eq] at h
    split at h
    · next v hv => exact s_iload hd hv (hk _ _ _ _ _ h)
    · exact h.elim
  | lload n =>
    have e := Nat.eq_of_beq_eq_true hln; subst e
    simp only [z_step, z_ldl, z_nth_eq] at h
    split at h
    · next v hv => exact s_lload hd hv (hk _ _ _ _ _ h)
    · exact h.elim
  | aload n =>
    have e := Nat.eq_of_beq_eq_true hln; subst e
    simp only [z_step, z_ldr, z_nth_eq] at h
    split at h
    · next v hv => exact s_aload hd hv (hk _ _ _ _ _ h)
    · exact h.elim
  | aload_n n =>
    have e := Nat.eq_of_beq_eq_true hln; subst e
    simp only [z_step, z_lda, z_nth_eq] at h
    split at h
    · next v hv => exact s_aload_n hd hv (hk _ _ _ _ _ h)
    · next hv => exact s_aload_nN hd hv (hk _ _ _ _ _ h)
    · exact h.elim
  | iconst n =>
    have e := Nat.eq_of_beq_eq_true hln; subst e
    exact s_st (fun ad hx hb _ _ kk => lv_iconst hx hb hd (of_decide_eq_true hok) kk) (hk _ _ _ _ _ h)
  | bipush n =>
    have e := Nat.eq_of_beq_eq_true hln; subst e
    exact s_st (fun ad hx hb _ _ kk => lv_bipush hx hb hd (of_decide_eq_true hok) kk) (hk _ _ _ _ _ h)
  | sipush n =>
    have e := Nat.eq_of_beq_eq_true hln; subst e
    exact s_st (fun ad hx hb _ _ kk => lv_sipush hx hb hd (of_decide_eq_true hok) kk) (hk _ _ _ _ _ h)
  | lconst n =>
    have e := Nat.eq_of_beq_eq_true hln; subst e
    exact s_st (fun ad hx hb _ _ kk => lv_lconst hx hb hd rfl kk) (hk _ _ _ _ _ h)
  | ldc x =>
    have e := Nat.eq_of_beq_eq_true hln; subst e
    cases u with
    | zero => exact s_ldcS hd (z_elem hok) (hk _ _ _ _ _ h)
    | succ u => exact s_st (fun ad hx hb hown hts kk => lv_ldc hx hb hown (hts _ (z_inU (k_lk _ (z_elem hok)) rfl)) hd kk) (hk _ _ _ _ _ h)
  | ldc_w x =>
    have e := Nat.eq_of_beq_eq_true hln; subst e
    cases u with
    | zero => exact s_ldcSW hd (z_elem hok) (hk _ _ _ _ _ h)
    | succ u => exact s_st (fun ad hx hb hown hts kk => lv_ldcw hx hb hown (hts _ (z_inU (k_lk _ (z_elem hok)) rfl)) hd kk) (hk _ _ _ _ _ h)
  | ldc2_w x =>
    have e := Nat.eq_of_beq_eq_true hln; subst e
    exact s_st (fun ad hx hb hown hts kk => lv_ldc2 hx hb hown (hts _ (z_inU (k_lkl _ (z_elem hok)) rfl)) hd kk) (hk _ _ _ _ _ h)
  | istore_n n =>
    have e := Nat.eq_of_beq_eq_true hln; subst e
    simp only [z_step, z_sto, z_setK_eq] at h
    split at h
    · split at h
      · next hb => obtain ⟨b1, b2⟩ := z_band hb; exact s_istore_n hd (Nat.blt_eq.mp b1) b2 (hk _ _ _ _ _ h)
      · exact h.elim
    · exact h.elim
  | istore n =>
    have e := Nat.eq_of_beq_eq_true hln; subst e
    simp only [z_step, z_sto, z_setK_eq] at h
    split at h
    · split at h
      · next hb => obtain ⟨b1, b2⟩ := z_band hb; exact s_istore hd (Nat.blt_eq.mp b1) b2 (hk _ _ _ _ _ h)
      · exact h.elim
    · exact h.elim
  | astore_n n =>
    have e := Nat.eq_of_beq_eq_true hln; subst e
    simp only [z_step, z_sto, z_setK_eq] at h
    split at h
    · split at h
      · next hb => obtain ⟨b1, b2⟩ := z_band hb; exact s_astore_n hd (Nat.blt_eq.mp b1) b2 (hk _ _ _ _ _ h)
      · exact h.elim
    · exact h.elim
  | lstore_n n =>
    have e := Nat.eq_of_beq_eq_true hln; subst e
    simp only [z_step, z_sto2, z_setK_eq] at h
    split at h
    · split at h
      · next hb => obtain ⟨b1, b2⟩ := z_band hb; exact s_lstore_n hd (Nat.blt_eq.mp b1) b2 (hk _ _ _ _ _ h)
      · exact h.elim
    · exact h.elim
  | lstore n =>
    have e := Nat.eq_of_beq_eq_true hln; subst e
    simp only [z_step, z_sto2, z_setK_eq] at h
    split at h
    · split at h
      · next hb => obtain ⟨b1, b2⟩ := z_band hb; exact s_lstore hd (Nat.blt_eq.mp b1) b2 (hk _ _ _ _ _ h)
      · exact h.elim
    · exact h.elim
  | iinc n z =>
    have e := Nat.eq_of_beq_eq_true hln; subst e
    simp only [z_step, z_nth_eq, z_sto, z_setK_eq] at h
    split at h
    · next x hx1 =>
      split at h
      · next hb => obtain ⟨b1, b2⟩ := z_band hb; exact s_iinc hd hx1 (by rw [← of_decide_eq_true hok]) (Nat.blt_eq.mp b1) b2 (hk _ _ _ _ _ h)
      · exact h.elim
    · exact h.elim
  | dup =>
    have e := Nat.eq_of_beq_eq_true hln; subst e
    simp only [z_step] at h
    split at h
    · exact s_st (fun ad hx hb _ _ kk => lv_dup hx hb hd rfl kk) (hk _ _ _ _ _ h)
    · exact s_st (fun ad hx hb _ _ kk => lv_dup hx hb hd rfl kk) (hk _ _ _ _ _ h)
    · exact h.elim
  | dup2 =>
    have e := Nat.eq_of_beq_eq_true hln; subst e
    simp only [z_step] at h
    split at h
    · exact s_st (fun ad hx hb _ _ kk => lv_dup2_11 hx hb hd rfl rfl kk) (hk _ _ _ _ _ h)
    · exact h.elim
  | pop =>
    have e := Nat.eq_of_beq_eq_true hln; subst e
    simp only [z_step] at h
    split at h
    · exact s_st (fun ad hx hb _ _ kk => lv_pop hx hb hd rfl kk) (hk _ _ _ _ _ h)
    · exact s_st (fun ad hx hb _ _ kk => lv_pop hx hb hd rfl kk) (hk _ _ _ _ _ h)
    · exact h.elim
  | iadd =>
    have e := Nat.eq_of_beq_eq_true hln; subst e
    simp only [z_step] at h
    split at h
    · exact s_st (fun ad hx hb _ _ kk => lv_iadd hx hb hd kk) (hk _ _ _ _ _ h)
    · exact h.elim
  | isub =>
    have e := Nat.eq_of_beq_eq_true hln; subst e
    simp only [z_step] at h
    split at h
    · exact s_st (fun ad hx hb _ _ kk => lv_isub hx hb hd kk) (hk _ _ _ _ _ h)
    · exact h.elim
  | imul =>
    have e := Nat.eq_of_beq_eq_true hln; subst e
    simp only [z_step] at h
    split at h
    · exact s_st (fun ad hx hb _ _ kk => lv_imul hx hb hd kk) (hk _ _ _ _ _ h)
    · exact h.elim
  | iand =>
    have e := Nat.eq_of_beq_eq_true hln; subst e
    simp only [z_step] at h
    split at h
    · exact s_st (fun ad hx hb _ _ kk => lv_iand hx hb hd kk) (hk _ _ _ _ _ h)
    · exact h.elim
  | ior =>
    have e := Nat.eq_of_beq_eq_true hln; subst e
    simp only [z_step] at h
    split at h
    · exact s_st (fun ad hx hb _ _ kk => lv_ior hx hb hd kk) (hk _ _ _ _ _ h)
    · exact h.elim
  | ixor =>
    have e := Nat.eq_of_beq_eq_true hln; subst e
    simp only [z_step] at h
    split at h
    · exact s_st (fun ad hx hb _ _ kk => lv_ixor hx hb hd kk) (hk _ _ _ _ _ h)
    · exact h.elim
  | ishl =>
    have e := Nat.eq_of_beq_eq_true hln; subst e
    simp only [z_step] at h
    split at h
    · exact s_st (fun ad hx hb _ _ kk => lv_ishl hx hb hd kk) (hk _ _ _ _ _ h)
    · exact h.elim
  | ishr =>
    have e := Nat.eq_of_beq_eq_true hln; subst e
    simp only [z_step] at h
    split at h
    · exact s_st (fun ad hx hb _ _ kk => lv_ishr hx hb hd kk) (hk _ _ _ _ _ h)
    · exact h.elim
  | ladd =>
    have e := Nat.eq_of_beq_eq_true hln; subst e
    simp only [z_step] at h
    split at h
    · exact s_st (fun ad hx hb _ _ kk => lv_ladd hx hb hd kk) (hk _ _ _ _ _ h)
    · exact h.elim
  | lsub =>
    have e := Nat.eq_of_beq_eq_true hln; subst e
    simp only [z_step] at h
    split at h
    · exact s_st (fun ad hx hb _ _ kk => lv_lsub hx hb hd kk) (hk _ _ _ _ _ h)
    · exact h.elim
  | land =>
    have e := Nat.eq_of_beq_eq_true hln; subst e
    simp only [z_step] at h
    split at h
    · exact s_st (fun ad hx hb _ _ kk => lv_land hx hb hd kk) (hk _ _ _ _ _ h)
    · exact h.elim
  | lor =>
    have e := Nat.eq_of_beq_eq_true hln; subst e
    simp only [z_step] at h
    split at h
    · exact s_st (fun ad hx hb _ _ kk => lv_lor hx hb hd kk) (hk _ _ _ _ _ h)
    · exact h.elim
  | lxor =>
    have e := Nat.eq_of_beq_eq_true hln; subst e
    simp only [z_step] at h
    split at h
    · exact s_st (fun ad hx hb _ _ kk => lv_lxor hx hb hd kk) (hk _ _ _ _ _ h)
    · exact h.elim
  | idiv =>
    have e := Nat.eq_of_beq_eq_true hln; subst e
    simp only [z_step] at h
    split at h
    · exact s_st (fun ad hx hb _ _ kk => lv_idiv hx hb hd h.1 kk) (hk _ _ _ _ _ h.2)
    · exact h.elim
  | irem =>
    have e := Nat.eq_of_beq_eq_true hln; subst e
    simp only [z_step] at h
    split at h
    · exact s_st (fun ad hx hb _ _ kk => lv_irem hx hb hd h.1 kk) (hk _ _ _ _ _ h.2)
    · exact h.elim
  | lshl =>
    have e := Nat.eq_of_beq_eq_true hln; subst e
    simp only [z_step] at h
    split at h
    · exact s_st (fun ad hx hb _ _ kk => lv_lshl hx hb hd rfl kk) (hk _ _ _ _ _ h)
    · exact h.elim
  | lshr =>
    have e := Nat.eq_of_beq_eq_true hln; subst e
    simp only [z_step] at h
    split at h
    · exact s_st (fun ad hx hb _ _ kk => lv_lshr hx hb hd rfl kk) (hk _ _ _ _ _ h)
    · exact h.elim
  | lushr =>
    have e := Nat.eq_of_beq_eq_true hln; subst e
    simp only [z_step] at h
    split at h
    · exact s_st (fun ad hx hb _ _ kk => lv_lushr hx hb hd rfl kk) (hk _ _ _ _ _ h)
    · exact h.elim
  | i2l =>
    have e := Nat.eq_of_beq_eq_true hln; subst e
    simp only [z_step] at h
    split at h
    · exact s_st (fun ad hx hb _ _ kk => lv_i2l hx hb hd rfl kk) (hk _ _ _ _ _ h)
    · exact h.elim
  | l2i =>
    have e := Nat.eq_of_beq_eq_true hln; subst e
    simp only [z_step] at h
    split at h
    · exact s_st (fun ad hx hb _ _ kk => lv_l2i hx hb hd rfl kk) (hk _ _ _ _ _ h)
    · exact h.elim
  | i2b =>
    have e := Nat.eq_of_beq_eq_true hln; subst e
    simp only [z_step] at h
    split at h
    · exact s_st (fun ad hx hb _ _ kk => lv_i2b hx hb hd rfl kk) (hk _ _ _ _ _ h)
    · exact h.elim
  | i2c =>
    have e := Nat.eq_of_beq_eq_true hln; subst e
    simp only [z_step] at h
    split at h
    · exact s_st (fun ad hx hb _ _ kk => lv_i2c hx hb hd rfl kk) (hk _ _ _ _ _ h)
    · exact h.elim
  | lcmp =>
    have e := Nat.eq_of_beq_eq_true hln; subst e
    simp only [z_step] at h
    split at h
    · exact s_st (fun ad hx hb _ _ kk => W.lcmp hx hb hd kk) (hk _ _ _ _ _ h)
    · exact h.elim
  | ifCond c o =>
    have e := Nat.eq_of_beq_eq_true hln; subst e
    simp only [z_step] at h
    split at h
    · exact s_if hd (of_decide_eq_true hok) (fun q => hj _ _ _ _ _ _ (h.1 q)) (fun q => hk _ _ _ _ _ (h.2 q))
    · exact h.elim
  | if_icmp c o =>
    have e := Nat.eq_of_beq_eq_true hln; subst e
    simp only [z_step] at h
    split at h
    · exact s_icmp hd (of_decide_eq_true hok) (fun q => hj _ _ _ _ _ _ (h.1 q)) (fun q => hk _ _ _ _ _ (h.2 q))
    · exact h.elim
  | goto o =>
    have e := Nat.eq_of_beq_eq_true hln; subst e
    exact s_goto hd (of_decide_eq_true hok) (hj _ _ _ _ _ _ h)
  | tableswitch d lo hi os =>
    simp only [z_step] at h
    simp only [z_ok] at hok
    obtain ⟨o1, hok⟩ := z_band hok
    obtain ⟨o2, hok⟩ := z_band hok
    obtain ⟨o3, hok⟩ := z_band hok
    obtain ⟨o4, o5⟩ := z_band hok
    split at h
    · refine s_table hd (of_decide_eq_true o1) (of_decide_eq_true o2) (of_decide_eq_true o3) (of_decide_eq_true o4) (fun o ho => of_decide_eq_true (List.all_eq_true.mp o5 o ho)) (fun q => hj _ _ _ _ _ _ (h.1 q)) ?_
      refine z_sw_mono (fun t q => hj _ _ _ _ _ _ q) _ _ h.2
    · exact h.elim
  | lookupswitch d ps =>
    simp only [z_step] at h
    simp only [z_ok] at hok
    obtain ⟨o1, hok⟩ := z_band hok
    obtain ⟨o2, o3⟩ := z_band hok
    split at h
    · refine s_lookup hd (of_decide_eq_true o1) o2 (fun o ho => ?_) (z_lk_mono (fun t q => hj _ _ _ _ _ _ q) _ h)
      obtain ⟨a1, a2⟩ := z_band (List.all_eq_true.mp o3 o ho)
      obtain ⟨a3, a4⟩ := z_band a2
      exact ⟨of_decide_eq_true a1, of_decide_eq_true a3, of_decide_eq_true a4⟩
    · exact h.elim
  | iaload =>
    have e := Nat.eq_of_beq_eq_true hln; subst e
    simp only [z_step] at h
    split at h
    · exact z_al_sound0 hd hk h
    · exact h.elim
  | baload =>
    have e := Nat.eq_of_beq_eq_true hln; subst e
    simp only [z_step] at h
    split at h
    · exact z_al_sound1 hd hk h
    · exact h.elim
  | iastore =>
    have e := Nat.eq_of_beq_eq_true hln; subst e
    simp only [z_step, z_setK_eq, z_nth_eq, z_set_eq] at h
    split at h
    · split at h
      · split at h
        · next kd n f hc =>
          split at h
          · next hb => have e := Nat.eq_of_beq_eq_true hb; subst e; exact s_iast hd hc h.1 (hk _ _ _ _ _ h.2)
          · exact h.elim
        · exact h.elim
      · exact h.elim
    · exact h.elim
  | bastore =>
    have e := Nat.eq_of_beq_eq_true hln; subst e
    simp only [z_step, z_setK_eq, z_nth_eq, z_set_eq] at h
    split at h
    · split at h
      · split at h
        · next kd n f hc =>
          split at h
          · exact s_bast hd hc h.1 (hk _ _ _ _ _ h.2)
          · exact s_zast hd hc h.1 (hk _ _ _ _ _ h.2)
          · exact h.elim
        · exact h.elim
      · exact h.elim
    · exact h.elim
  | aaload =>
    have e := Nat.eq_of_beq_eq_true hln; subst e
    simp only [z_step, z_nth_eq] at h
    split at h
    · split at h
      · split at h
        · next rs hc => obtain ⟨g, h1, h2, h3⟩ := h; exact s_aald hd hc h1 h2 (hk _ _ _ _ _ h3)
        · exact h.elim
      · exact h.elim
    · exact h.elim
  | aastore =>
    have e := Nat.eq_of_beq_eq_true hln; subst e
    simp only [z_step, z_setK_eq, z_nth_eq, z_set_eq] at h
    split at h
    · split at h
      · split at h
        · next rs hc =>
          split at h
          · next ci fs hg =>
            split at h
            · next hb => exact s_aast hd hc hg (Nat.eq_of_beq_eq_true hb) h.1 (hk _ _ _ _ _ h.2)
            · exact h.elim
          · exact h.elim
        · exact h.elim
      · exact h.elim
    · exact h.elim
  | arraylength =>
    have e := Nat.eq_of_beq_eq_true hln; subst e
    simp only [z_step] at h
    split at h
    · exact z_len_sound hd hk h
    · exact h.elim
  | getfield x =>
    have e := Nat.eq_of_beq_eq_true hln; subst e
    exact z_getf_sound hd (z_elem hok) hk h
  | putfield x =>
    have e := Nat.eq_of_beq_eq_true hln; subst e
    exact z_putf_sound hd hok hk h
  | getstatic x =>
    have e := Nat.eq_of_beq_eq_true hln; subst e
    exact z_gets_sound hd hok hk h
  | invokevirtual x =>
    have e := Nat.eq_of_beq_eq_true hln; subst e
    exact z_callV_sound hd hok hk h
  | invokestatic x =>
    have e := Nat.eq_of_beq_eq_true hln; subst e
    exact z_callS_sound hd hok hk h
  | invokespecial x =>
    have e := Nat.eq_of_beq_eq_true hln; subst e
    exact z_callI_sound hd hok hk h
  | new x =>
    have e := Nat.eq_of_beq_eq_true hln; subst e
    exact z_new_sound hd hok hk h
  | newarray x =>
    have e := Nat.eq_of_beq_eq_true hln; subst e
    exact z_newa_sound hd hok hk h
  | anewarray x =>
    have e := Nat.eq_of_beq_eq_true hln; subst e
    exact z_newq_sound hd hok hk h
  | return_ =>
    have e := Nat.eq_of_beq_eq_true hln; subst e
    simp only [z_step] at h
    split at h
    · next hre =>
      split at h
      · obtain ⟨r1, r2, r3, r4⟩ := hr _ _ _ _ h; exact s_vret hd hre r1 r2 r3 r4
      · exact h.elim
    · exact h.elim
  | ireturn =>
    have e := Nat.eq_of_beq_eq_true hln; subst e
    simp only [z_step] at h
    split at h
    · split at h
      · next hre => obtain ⟨r1, r2, r3, r4⟩ := hr _ _ _ _ h; exact s_iret hd hre rfl r1 r2 r3 r4
      · next hre => obtain ⟨r1, r2, r3, r4⟩ := hr _ _ _ _ h.2; exact s_iret hd hre (z_narB h.1) r1 r2 r3 r4
      · next hre => obtain ⟨r1, r2, r3, r4⟩ := hr _ _ _ _ h.2; exact s_iret hd hre h.1 r1 r2 r3 r4
      · next hre => obtain ⟨r1, r2, r3, r4⟩ := hr _ _ _ _ h.2; exact s_iret hd hre h.1 r1 r2 r3 r4
      · exact h.elim
    · exact h.elim
  | lreturn =>
    have e := Nat.eq_of_beq_eq_true hln; subst e
    simp only [z_step] at h
    split at h
    · split at h
      · next hre => obtain ⟨r1, r2, r3, r4⟩ := hr _ _ _ _ h; exact s_lret hd hre r1 r2 r3 r4
      · exact h.elim
    · exact h.elim
  | areturn =>
    have e := Nat.eq_of_beq_eq_true hln; subst e
    simp only [z_step] at h
    split at h
    · split at h
      · next hre => obtain ⟨r1, r2, r3, r4⟩ := hr _ _ _ _ h; exact s_aret hd hre r1 r2 r3 r4
      · exact h.elim
    · exact h.elim
  | _ => exact h.elim
/-! the walk is sound -/
theorem z_blk_mem : ∀ {bs : List BK} {t : Nat} {b : List CI × Nat}, z_blk bs t = some b → (t, b) ∈ bs := by
  intro bs
  induction bs with
  | nil => intro t b h; cases h
  | cons q bs ih =>
    obtain ⟨s0, is0, f0⟩ := q
    intro t b h
    simp only [z_blk] at h
    split at h
    · next hb =>
      cases h
      rw [← Nat.eq_of_beq_eq_true hb]
      exact List.mem_cons_self
    · exact List.mem_cons_of_mem _ (ih h)
theorem wp_sound {bs : List BK} {cuts : List Nat} (hbs : z_chkM j bs = true) : ∀ (n : Nat) {is : List CI} {fall : Nat} {L : LC} {st : List Value} {σ : List AE} {ce sl : Nat}, z_chkB (k_co j) (k_ci j) (Nat.beq (k_ki j) 2) is fall = true → wp l j rk MC MS n0 X Post (k_nL j) (k_re j) bs cuts n is fall L st σ ce sl → AW l j rk MC MS n0 X Post (z_nx is fall) L st σ ce sl := by
  intro n
  induction n with
  | zero => intro is fall L st σ ce sl _ h; exact h.elim
  | succ n ih =>
    intro is fall L st σ ce sl hc h
    cases is with
    | nil =>
      simp only [wp] at h
      split at h
      · exact h
      · split at h
        · next is1 fall1 hb =>
          have hm := List.all_eq_true.mp hbs _ (z_blk_mem hb)
          obtain ⟨m1, m2⟩ := z_band hm
          have m2 := of_decide_eq_true m2
          have := ih m1 h
          rw [m2] at this
          exact this
        · exact h.elim
    | cons q is =>
      obtain ⟨pc, i, t, u⟩ := q
      simp only [wp] at h
      simp only [z_chkB] at hc
      obtain ⟨c1, c2⟩ := z_band hc
      split at c1
      · next i' len hdec =>
        obtain ⟨d1, d2⟩ := z_band c1
        obtain ⟨d2, d3⟩ := z_band d2
        obtain ⟨d3, d4⟩ := z_band d3
        have e1 := of_decide_eq_true d1
        have e2 := of_decide_eq_true d2
        subst e1
        refine z_step_sound (nx := z_nx is fall) hdec e2 d3 d4 (fun L st σ ce sl q => ih c2 q) (fun t L st σ ce sl q => ih (is := []) rfl q) (fun r σ ce sl q => ?_) h
        split at q
        · next hb =>
          obtain ⟨b1, b2⟩ := z_band hb
          obtain ⟨b2, b3⟩ := z_band b2
          exact ⟨Nat.ble_eq.mp b1, Nat.ble_eq.mp b2, b3, q⟩
        · exact q.elim
      · cases c1
/-- from a block's start -/
theorem AW.go {bs : List BK} (cuts : List Nat) (n : Nat) (hbs : z_chkM j bs = true) (h : match z_blk bs pc with
    | some (is, fall) => wp l j rk MC MS n0 X Post (k_nL j) (k_re j) bs cuts n is fall L st σ ce sl
    | none => False) : AW l j rk MC MS n0 X Post pc L st σ ce sl := by
  split at h
  · next is1 fall1 hb =>
    have hm := List.all_eq_true.mp hbs _ (z_blk_mem hb)
    obtain ⟨m1, m2⟩ := z_band hm
    have m2 := of_decide_eq_true m2
    have := wp_sound hbs n m1 h
    rw [m2] at this
    exact this
  · exact h.elim
end ZX
/-- a contract out of the walk -/
theorem z_lay_kn (ad : Nat → Nat) : ∀ (vs : List Value) (k : Nat), lv_args k (vs.map (z_cv ad)) = z_kn ad k (z_lay vs) := by
  intro vs
  induction vs with
  | nil => intro k; rfl
  | cons v vs ih =>
    intro k
    cases v <;> simp [lv_args, z_lay, z_kn, z_cv, Value.category, ih]
theorem z_kn_app (ad : Nat → Nat) : ∀ (L : LC) (k m : Nat), z_kn ad k (L ++ List.replicate m none) = z_kn ad k L := by
  intro L
  induction L with
  | nil =>
    intro k m
    induction m generalizing k with
    | zero => rfl
    | succ m ih => simpa [List.replicate_succ, z_kn] using ih (k + 1)
  | cons o L ih => intro k m; cases o <;> simp [z_kn, ih]
theorem z_lay_len (ad : Nat → Nat) (vs : List Value) : (lg_sl (vs.map (z_cv ad))).length = (z_lay vs).length := by
  induction vs with
  | nil => rfl
  | cons v vs ih =>
    have e : lg_sl (z_cv ad v :: vs.map (z_cv ad)) = (if (z_cv ad v).category = 2 then [Slot.val (z_cv ad v), .second] else [.val (z_cv ad v)]) ++ lg_sl (vs.map (z_cv ad)) := by simp [lg_sl]
    rw [List.map_cons, e, List.length_append, ih]
    cases v <;> simp [z_lay, z_cv, Value.category] <;> omega
theorem z_V.of {l : Launch} {j : Nat} {sp : Sp} (hp : plainName (k_cn (k_ci j)) = true)
    (h : ∀ as σ K, sp.2.2.2.2 as σ K → z_ent as (k_nL j) (fun L => AW l j sp.1 sp.2.1 sp.2.2.1 σ.length none (fun r σ' => (σ' = σ ∧ K r none) ∨ K r (some σ')) 0 L [] σ 0 0)) : z_V l j sp := by
  intro as σ K htr D cy ad sz
  obtain ⟨mm, haw, hlen⟩ := z_ent_spec _ _ _ (h as σ K htr)
  refine Met.ofW (cc := k_co j) (maxL := k_nL j) (ret := k_re j) hp rfl ?_
  intro p e s m args below meth c s₁ B hml hv
  obtain ⟨rfl, hsz, hlt, hP, hK, hD0, hE⟩ := hv
  have hts := atoms_spec (ws := z_ws j) B.pre
  have hown : s.vm.findClass (k_cn (k_ci j)) = some m.cls := findClass_of_methodNamed B.named
  subst hsz
  have hD := hD0.self (sz := s.heap.size)
  rw [lg_entry_eq]
  have hl := lv_entry (as.map (z_cv ad)) (n := k_nL j) (by rw [z_lay_len]; omega)
  rw [z_lay_kn, ← z_kn_app ad (z_lay as) 0 mm] at hl
  exact haw p e s m _ below meth c D cy ad _ ⟨B.exec, B.bytes, hml, B.returns, B.notSynchronized, fun hk => (name_of_methodNamed B.named B.method).1.trans (by
    have hkk : ∀ q ∈ k_mL, q.2.2.2.2.2.2.2 = 2 → q.2.1 = "<init>" := by decide +kernel
    by_cases hj : j < k_mL.length
    · have h2 : k_mL[j]? = some (k_m j) := by
        unfold k_m
        rw [List.getD_eq_getElem?_getD, List.getElem?_eq_getElem hj]
        rfl
      exact hkk _ (List.mem_of_getElem? h2) hk
    · have : k_m j = (0, "", "", code, 0, none, 0, 9) := by
        unfold k_m
        rw [List.getD_eq_getElem?_getD, List.getElem?_eq_none (by omega)]
        rfl
      simp [k_ki, this] at hk), hown, fun w hw => hts w (List.mem_cons_of_mem _ hw), hK, hE, fun q hq => Or.inr hq⟩ ad _ s.heap [] (fun _ _ => rfl) (Nat.le_refl _) (by omega) hlt hl hP hD va_S.rf
