section ZS
variable {l : Launch} {j rk MC MS n0 : Nat} {X : Option (Nat × (Nat → Int32))} {Post : Option Value → List AE → Prop} {pc : Nat} {L : LC} {st : List Value} {σ : List AE} {ce sl : Nat}
/-! plain instructions -/
theorem s_ld {i : Nat} {v : Value} {nx : Nat} (hv : L[i]? = some (some v))
    (row : ∀ {p : Program} {e : Env} {s : State} {m : MethodId} {args : Array Value} {below : List Frame} {meth : Method} {c : Code} {H : Heap} {locs : List Loc} {Q : State → Prop} {ls : Array Slot} {rest : List Value} {w : Value}, p.tables.exec = Jvm.exec → c.code = k_co j → ls[i]? = some (.val w) → (∃ ad, w = z_cv ad v) → W p l e (z_rm rk MC MS) s m args below meth c H locs ce sl Q (F0 m nx ls (w :: rest)) → W p l e (z_rm rk MC MS) s m args below meth c H locs ce sl Q (F0 m pc ls rest))
    (k : AW l j rk MC MS n0 X Post nx L (v :: st) σ ce sl) : AW l j rk MC MS n0 X Post pc L st σ ce sl := by
  intro p e s m args below meth c D cy ad0 A C ad ls H locs hag hn hle hlt hl hP hD hS
  exact row C.1 C.2.1 (z_lv_at hl hv) ⟨ad, rfl⟩ (k p e s m args below meth c D cy ad0 A C ad ls H locs hag hn hle hlt hl hP hD hS)
theorem s_iload_n {n : Fin 4} {x : Int32} (hd : decode (k_co j) pc = .ok (.iload_n n, 1)) (hv : L[n.val]? = some (some (.int x))) (k : AW l j rk MC MS n0 X Post (pc + 1) L (.int x :: st) σ ce sl) : AW l j rk MC MS n0 X Post pc L st σ ce sl :=
  s_ld hv (fun hx hb hl hw kk => by obtain ⟨ad, rfl⟩ := hw; exact lv_iload_n hx hb hd rfl hl kk) k
theorem s_lload_n {n : Fin 4} {x : Int64} (hd : decode (k_co j) pc = .ok (.lload_n n, 1)) (hv : L[n.val]? = some (some (.long x))) (k : AW l j rk MC MS n0 X Post (pc + 1) L (.long x :: st) σ ce sl) : AW l j rk MC MS n0 X Post pc L st σ ce sl :=
  s_ld hv (fun hx hb hl hw kk => by obtain ⟨ad, rfl⟩ := hw; exact lv_lload_n hx hb hd rfl hl kk) k
theorem s_aload_n {n : Fin 4} {x : Nat} (hd : decode (k_co j) pc = .ok (.aload_n n, 1)) (hv : L[n.val]? = some (some (.ref x))) (k : AW l j rk MC MS n0 X Post (pc + 1) L (.ref x :: st) σ ce sl) : AW l j rk MC MS n0 X Post pc L st σ ce sl :=
  s_ld hv (fun hx hb hl hw kk => by obtain ⟨ad, rfl⟩ := hw; exact lv_aload_n hx hb hd rfl hl kk) k
theorem s_aload_nN {n : Fin 4} (hd : decode (k_co j) pc = .ok (.aload_n n, 1)) (hv : L[n.val]? = some (some .null)) (k : AW l j rk MC MS n0 X Post (pc + 1) L (.null :: st) σ ce sl) : AW l j rk MC MS n0 X Post pc L st σ ce sl :=
  s_ld hv (fun hx hb hl hw kk => by obtain ⟨ad, rfl⟩ := hw; exact lv_aload_nN hx hb hd rfl hl kk) k
theorem s_iload {n : Nat} {x : Int32} (hd : decode (k_co j) pc = .ok (.iload n, 2)) (hv : L[n]? = some (some (.int x))) (k : AW l j rk MC MS n0 X Post (pc + 2) L (.int x :: st) σ ce sl) : AW l j rk MC MS n0 X Post pc L st σ ce sl :=
  s_ld hv (fun hx hb hl hw kk => by obtain ⟨ad, rfl⟩ := hw; exact lv_iload hx hb hd hl kk) k
theorem s_lload {n : Nat} {x : Int64} (hd : decode (k_co j) pc = .ok (.lload n, 2)) (hv : L[n]? = some (some (.long x))) (k : AW l j rk MC MS n0 X Post (pc + 2) L (.long x :: st) σ ce sl) : AW l j rk MC MS n0 X Post pc L st σ ce sl :=
  s_ld hv (fun hx hb hl hw kk => by obtain ⟨ad, rfl⟩ := hw; exact lv_lload hx hb hd hl kk) k
theorem s_aload {n : Nat} {x : Nat} (hd : decode (k_co j) pc = .ok (.aload n, 2)) (hv : L[n]? = some (some (.ref x))) (k : AW l j rk MC MS n0 X Post (pc + 2) L (.ref x :: st) σ ce sl) : AW l j rk MC MS n0 X Post pc L st σ ce sl :=
  s_ld hv (fun hx hb hl hw kk => by obtain ⟨ad, rfl⟩ := hw; exact lv_aload hx hb hd hl kk) k
/-- a step of the stack alone -/
theorem s_st {st' : List Value} {nx : Nat}
    (row : ∀ {p : Program} {e : Env} {s : State} {m : MethodId} {args : Array Value} {below : List Frame} {meth : Method} {c : Code} {H : Heap} {locs : List Loc} {Q : State → Prop} {ls : Array Slot} (ad : Nat → Nat), p.tables.exec = Jvm.exec → c.code = k_co j → s.vm.findClass (k_cn (k_ci j)) = some m.cls → (∀ w ∈ z_U, w.before args s = true) → W p l e (z_rm rk MC MS) s m args below meth c H locs ce sl Q (F0 m nx ls (st'.map (z_cv ad))) → W p l e (z_rm rk MC MS) s m args below meth c H locs ce sl Q (F0 m pc ls (st.map (z_cv ad))))
    (k : AW l j rk MC MS n0 X Post nx L st' σ ce sl) : AW l j rk MC MS n0 X Post pc L st σ ce sl := by
  intro p e s m args below meth c D cy ad0 A C ad ls H locs hag hn hle hlt hl hP hD hS
  exact row ad C.1 C.2.1 C.2.2.2.2.2.2.1 C.2.2.2.2.2.2.2.1 (k p e s m args below meth c D cy ad0 A C ad ls H locs hag hn hle hlt hl hP hD hS)
theorem s_sto {i : Nat} {v : Value} {nx : Nat} (hi : i < k_nL j) (hc : v.category = 1) (hok : z_okS L i = true)
    (row : ∀ {p : Program} {e : Env} {s : State} {m : MethodId} {args : Array Value} {below : List Frame} {meth : Method} {c : Code} {H : Heap} {locs : List Loc} {Q : State → Prop} {ls : Array Slot} {rest : List Value} (ad : Nat → Nat) (lv : List (Nat × Value)), p.tables.exec = Jvm.exec → c.code = k_co j → lv_has ls (k_nL j) lv →
      (∀ ls', lv_has ls' (k_nL j) ((i, z_cv ad v) :: lv.filter (fun q => !(q.1 == i) && !(q.1 + 1 == i && q.2.category == 2))) → W p l e (z_rm rk MC MS) s m args below meth c H locs ce sl Q (F0 m nx ls' rest)) → W p l e (z_rm rk MC MS) s m args below meth c H locs ce sl Q (F0 m pc ls (z_cv ad v :: rest)))
    (k : AW l j rk MC MS n0 X Post nx (z_set L i (some v)) st σ ce sl) : AW l j rk MC MS n0 X Post pc L (v :: st) σ ce sl := by
  intro p e s m args below meth c D cy ad0 A C ad ls H locs hag hn hle hlt hl hP hD hS
  exact row ad _ C.1 C.2.1 hl (fun ls' hl' => k p e s m args below meth c D cy ad0 A C ad ls' H locs hag hn hle hlt (z_store1 hl hi hc hok ls' hl') hP hD hS)
theorem s_istore_n {n : Fin 4} {x : Int32} (hd : decode (k_co j) pc = .ok (.istore_n n, 1)) (hi : n.val < k_nL j) (hok : z_okS L n.val = true) (k : AW l j rk MC MS n0 X Post (pc + 1) (z_set L n.val (some (.int x))) st σ ce sl) : AW l j rk MC MS n0 X Post pc L (.int x :: st) σ ce sl :=
  s_sto hi rfl hok (fun ad lv hx hb hl kk => lv_istore_n hx hb hd rfl hl hi rfl kk) k
theorem s_istore {n : Nat} {x : Int32} (hd : decode (k_co j) pc = .ok (.istore n, 2)) (hi : n < k_nL j) (hok : z_okS L n = true) (k : AW l j rk MC MS n0 X Post (pc + 2) (z_set L n (some (.int x))) st σ ce sl) : AW l j rk MC MS n0 X Post pc L (.int x :: st) σ ce sl :=
  s_sto hi rfl hok (fun ad lv hx hb hl kk => lv_istore hx hb hd hl hi rfl kk) k
theorem s_astore_n {n : Fin 4} {x : Nat} (hd : decode (k_co j) pc = .ok (.astore_n n, 1)) (hi : n.val < k_nL j) (hok : z_okS L n.val = true) (k : AW l j rk MC MS n0 X Post (pc + 1) (z_set L n.val (some (.ref x))) st σ ce sl) : AW l j rk MC MS n0 X Post pc L (.ref x :: st) σ ce sl :=
  s_sto hi rfl hok (fun ad lv hx hb hl kk => lv_astore_n hx hb hd rfl hl hi rfl kk) k
theorem s_sto2 {i : Nat} {x : Int64} {nx : Nat} (hi : i + 1 < k_nL j) (hok : z_okS L i = true)
    (row : ∀ {p : Program} {e : Env} {s : State} {m : MethodId} {args : Array Value} {below : List Frame} {meth : Method} {c : Code} {H : Heap} {locs : List Loc} {Q : State → Prop} {ls : Array Slot} {rest : List Value} (lv : List (Nat × Value)), p.tables.exec = Jvm.exec → c.code = k_co j → lv_has ls (k_nL j) lv →
      (∀ ls', lv_has ls' (k_nL j) ((i, .long x) :: lv.filter (fun q => !(q.1 == i) && (!(q.1 == i + 1) && !(q.1 + 1 == i && q.2.category == 2)))) → W p l e (z_rm rk MC MS) s m args below meth c H locs ce sl Q (F0 m nx ls' rest)) → W p l e (z_rm rk MC MS) s m args below meth c H locs ce sl Q (F0 m pc ls (.long x :: rest)))
    (k : AW l j rk MC MS n0 X Post nx (z_set (z_set L i (some (.long x))) (i + 1) none) st σ ce sl) : AW l j rk MC MS n0 X Post pc L (.long x :: st) σ ce sl := by
  intro p e s m args below meth c D cy ad0 A C ad ls H locs hag hn hle hlt hl hP hD hS
  exact row _ C.1 C.2.1 hl (fun ls' hl' => k p e s m args below meth c D cy ad0 A C ad ls' H locs hag hn hle hlt (z_store2 (v := .long x) hl hi rfl hok ls' hl') hP hD hS)
theorem s_lstore_n {n : Fin 4} {x : Int64} (hd : decode (k_co j) pc = .ok (.lstore_n n, 1)) (hi : n.val + 1 < k_nL j) (hok : z_okS L n.val = true) (k : AW l j rk MC MS n0 X Post (pc + 1) (z_set (z_set L n.val (some (.long x))) (n.val + 1) none) st σ ce sl) : AW l j rk MC MS n0 X Post pc L (.long x :: st) σ ce sl :=
  s_sto2 hi hok (fun lv hx hb hl kk => lv_lstore_n hx hb hd rfl hl hi rfl kk) k
theorem s_lstore {n : Nat} {x : Int64} (hd : decode (k_co j) pc = .ok (.lstore n, 2)) (hi : n + 1 < k_nL j) (hok : z_okS L n = true) (k : AW l j rk MC MS n0 X Post (pc + 2) (z_set (z_set L n (some (.long x))) (n + 1) none) st σ ce sl) : AW l j rk MC MS n0 X Post pc L (.long x :: st) σ ce sl :=
  s_sto2 hi hok (fun lv hx hb hl kk => lv_lstore hx hb hd hl hi rfl kk) k
theorem s_iinc {n : Nat} {x v : Int32} {z : Int} (hd : decode (k_co j) pc = .ok (.iinc n z, 3)) (hv : L[n]? = some (some (.int x))) (hz : x + Int32.ofInt z = v) (hi : n < k_nL j) (hok : z_okS L n = true) (k : AW l j rk MC MS n0 X Post (pc + 3) (z_set L n (some (.int v))) st σ ce sl) : AW l j rk MC MS n0 X Post pc L st σ ce sl := by
  intro p e s m args below meth c D cy ad0 A C ad ls H locs hag hn hle hlt hl hP hD hS
  obtain ⟨kx, hkx⟩ := List.getElem?_of_mem (z_kn_mem (ad := ad) (k := 0) (q := (n, .int x)).mpr ⟨n, .int x, hv, by simp [z_cv]⟩)
  exact lv_iinc (v := v) C.1 C.2.1 hd hl hkx hz hi rfl (fun ls' hl' => k p e s m args below meth c D cy ad0 A C ad ls' H locs hag hn hle hlt (z_store1 (v := .int v) hl hi rfl hok ls' hl') hP hD hS)
/-! branches -/
theorem s_if {cnd : ClassFile.Cond} {x : Int32} {off : Int} {t : Nat} (hd : decode (k_co j) pc = .ok (.ifCond cnd off, 3)) (ht : (pc : Int) + off = (t : Int)) (k1 : z_cond cnd x 0 → AW l j rk MC MS n0 X Post t L st σ ce sl) (k2 : ¬ z_cond cnd x 0 → AW l j rk MC MS n0 X Post (pc + 3) L st σ ce sl) : AW l j rk MC MS n0 X Post pc L (.int x :: st) σ ce sl := by
  intro p e s m args below meth c D cy ad0 A C ad ls H locs hag hn hle hlt hl hP hD hS
  have g1 := fun h => k1 h p e s m args below meth c D cy ad0 A C ad ls H locs hag hn hle hlt hl hP hD hS
  have g2 := fun h => k2 h p e s m args below meth c D cy ad0 A C ad ls H locs hag hn hle hlt hl hP hD hS
  cases cnd
  · exact lv_if_eq C.1 C.2.1 hd ht g1 g2
  · exact lv_if_ne C.1 C.2.1 hd ht g1 (fun h => g2 (fun hne => hne h))
  · exact lv_if_lt C.1 C.2.1 hd ht g1 g2
  · exact lv_if_ge C.1 C.2.1 hd ht g1 g2
  · exact lv_if_gt C.1 C.2.1 hd ht g1 g2
  · exact lv_if_le C.1 C.2.1 hd ht g1 g2
theorem s_icmp {cnd : ClassFile.Cond} {x y : Int32} {off : Int} {t : Nat} (hd : decode (k_co j) pc = .ok (.if_icmp cnd off, 3)) (ht : (pc : Int) + off = (t : Int)) (k1 : z_cond cnd x y → AW l j rk MC MS n0 X Post t L st σ ce sl) (k2 : ¬ z_cond cnd x y → AW l j rk MC MS n0 X Post (pc + 3) L st σ ce sl) : AW l j rk MC MS n0 X Post pc L (.int y :: .int x :: st) σ ce sl := by
  intro p e s m args below meth c D cy ad0 A C ad ls H locs hag hn hle hlt hl hP hD hS
  have g1 := fun h => k1 h p e s m args below meth c D cy ad0 A C ad ls H locs hag hn hle hlt hl hP hD hS
  have g2 := fun h => k2 h p e s m args below meth c D cy ad0 A C ad ls H locs hag hn hle hlt hl hP hD hS
  cases cnd
  · exact lv_icmp_eq C.1 C.2.1 hd ht g1 g2
  · exact lv_icmp_ne C.1 C.2.1 hd ht g1 (fun h => g2 (fun hne => hne h))
  · exact lv_icmp_lt C.1 C.2.1 hd ht g1 g2
  · exact lv_icmp_ge C.1 C.2.1 hd ht g1 g2
  · exact lv_icmp_gt C.1 C.2.1 hd ht g1 g2
  · exact lv_icmp_le C.1 C.2.1 hd ht g1 g2
theorem s_goto {off : Int} {t : Nat} (hd : decode (k_co j) pc = .ok (.goto off, 3)) (ht : (pc : Int) + off = (t : Int)) (k : AW l j rk MC MS n0 X Post t L st σ ce sl) : AW l j rk MC MS n0 X Post pc L st σ ce sl :=
  s_st (fun ad hx hb _ _ kk => lv_goto hx hb hd ht kk) k
theorem z_i32 {x : Int32} {a : Int} (h1 : -2147483648 ≤ a) (h2 : a ≤ 2147483647) : x = Int32.ofInt a ↔ x.toInt = a := by
  rw [← Int32.toInt_inj, Int32.toInt_ofInt, Int.bmod_eq_of_le (by have : Int32.size = 4294967296 := rfl; omega) (by have : Int32.size = 4294967296 := rfl; omega)]
theorem s_table {d lo hi : Int} {os : Array Int} {len : Nat} {x : Int32} (hd : decode (k_co j) pc = .ok (.tableswitch d lo hi os, len)) (h0 : 0 ≤ (pc : Int) + d) (hh : hi = lo + (os.size : Int) - 1) (hlo : -2147483648 ≤ lo) (hhi : hi ≤ 2147483647) (hos : ∀ o ∈ os.toList, 0 ≤ (pc : Int) + o)
    (k1 : (x.toInt < lo ∨ hi < x.toInt) → AW l j rk MC MS n0 X Post ((pc : Int) + d).toNat L st σ ce sl) (k2 : z_sw (fun t => AW l j rk MC MS n0 X Post t L st σ ce sl) pc x lo os.toList) : AW l j rk MC MS n0 X Post pc L (.int x :: st) σ ce sl := by
  by_cases ho : x.toInt < lo ∨ hi < x.toInt
  · exact s_st (nx := ((pc : Int) + d).toNat) (fun ad hx hb _ _ kk => lv_tableOut hx hb hd ho (by omega) kk) (k1 ho)
  · have hx1 : ¬ x.toInt < lo := fun h => ho (Or.inl h)
    have hx2 : ¬ hi < x.toInt := fun h => ho (Or.inr h)
    have key : ∀ (os : List Int) (lo : Int), -2147483648 ≤ lo → lo + (os.length : Int) - 1 ≤ 2147483647 → ¬ x.toInt < lo → x.toInt ≤ lo + (os.length : Int) - 1 → z_sw (fun t => AW l j rk MC MS n0 X Post t L st σ ce sl) pc x lo os →
        ∃ o, os[(x.toInt - lo).toNat]? = some o ∧ AW l j rk MC MS n0 X Post ((pc : Int) + o).toNat L st σ ce sl := by
      intro os
      induction os with
      | nil => intro lo _ _ h1 h2 _; simp at h2; omega
      | cons o os ih =>
        intro lo a1 a2 h1 h2 hz
        simp only [List.length_cons] at a2 h2
        by_cases e : x.toInt = lo
        · refine ⟨o, by simp [e], hz.1 ((z_i32 a1 (by omega)).mpr e)⟩
        · obtain ⟨o', g1, g2⟩ := ih (lo + 1) (by omega) (by omega) (by omega) (by omega) hz.2
          refine ⟨o', ?_, g2⟩
          rw [show (x.toInt - lo).toNat = (x.toInt - (lo + 1)).toNat + 1 by omega]
          simpa using g1
    have hsz : (os.toList.length : Int) = os.size := by simp
    obtain ⟨o, g1, g2⟩ := key os.toList lo hlo (by omega) hx1 (by omega) k2
    have hz := hos o (List.mem_of_getElem? g1)
    exact s_st (nx := ((pc : Int) + o).toNat) (fun ad hx hb _ _ kk => lv_tableIn (off := o) hx hb hd hx1 hx2 (by simpa using g1) (by omega) kk) g2
theorem s_lookup {d : Int} {ps : Array (Int × Int)} {len : Nat} {x : Int32} (hd : decode (k_co j) pc = .ok (.lookupswitch d ps, len)) (h0 : 0 ≤ (pc : Int) + d) (hp : (ps.toList.zip (ps.toList.drop 1)).all (fun (a, next) => a.1 < next.1) = true) (hos : ∀ o ∈ ps.toList, 0 ≤ (pc : Int) + o.2 ∧ -2147483648 ≤ o.1 ∧ o.1 ≤ 2147483647)
    (k2 : z_lk (fun t => AW l j rk MC MS n0 X Post t L st σ ce sl) pc d x ps.toList) : AW l j rk MC MS n0 X Post pc L (.int x :: st) σ ce sl := by
  have key : ∀ (os : List (Int × Int)), (∀ o ∈ os, 0 ≤ (pc : Int) + o.2 ∧ -2147483648 ≤ o.1 ∧ o.1 ≤ 2147483647) → z_lk (fun t => AW l j rk MC MS n0 X Post t L st σ ce sl) pc d x os → ∃ o, Op.lookupswitch.offset os d x.toInt = o ∧ 0 ≤ (pc : Int) + o ∧ AW l j rk MC MS n0 X Post ((pc : Int) + o).toNat L st σ ce sl := by
    intro os
    induction os with
    | nil => intro _ hz; exact ⟨d, rfl, h0, hz⟩
    | cons q os ih =>
      intro hq hz
      obtain ⟨a, o⟩ := q
      obtain ⟨q1, q2, q3⟩ := hq (a, o) List.mem_cons_self
      by_cases e : x = Int32.ofInt a
      · refine ⟨o, ?_, q1, hz.1 e⟩
        have := (z_i32 q2 q3).mp e
        simp [Op.lookupswitch.offset, this]
      · obtain ⟨o', g1, g2, g3⟩ := ih (fun o h => hq o (List.mem_cons_of_mem _ h)) (hz.2 e)
        refine ⟨o', ?_, g2, g3⟩
        rw [lv_osw (k := Int32.ofInt a) e (by rw [Int32.toInt_ofInt]; exact Int.bmod_eq_of_le (by have : Int32.size = 4294967296 := rfl; simp at q2; omega) (by have : Int32.size = 4294967296 := rfl; simp at q3; omega))]
        exact g1
  obtain ⟨o, g1, g2, g3⟩ := key ps.toList hos k2
  exact s_st (nx := ((pc : Int) + o).toNat) (fun ad hx hb _ _ kk => lv_lookup hx hb hd hp g1 (by omega) kk) g3
end ZS
