section ZR
variable {l : Launch} {j rk MC MS n0 : Nat} {X : Option (Nat × (Nat → Int32))} {Post : Option Value → List AE → Prop} {pc : Nat} {L : LC} {st : List Value} {σ : List AE} {ce sl : Nat}
theorem s_vret (hd : decode (k_co j) pc = .ok (.return_, 1)) (hty : k_re j = none) (h1 : ce ≤ MC) (h2 : sl ≤ MS) (h3 : z_okR none σ = true) (hp : Post none σ) : AW l j rk MC MS n0 X Post pc L [] σ ce sl := by
  intro p e s m args below meth c D cy ad0 A C ad ls H locs hag hn hle hlt hl hP hD hS
  obtain ⟨hx, hb, hml, hr, hlo, hin, hown, hts, hK, hE, hA⟩ := C
  refine W.widen (k := MC) (n := MS) h1 h2 ?_
  exact W.vret hx hb (hr.trans hty) (fun t ht hW => ⟨⟨none, σ, ad, hp, h3, hn, Nat.le_trans hle (by omega), hlt, hag, rfl, by rw [ht]; exact hP, hD⟩, hS.F ht⟩) hS.2.2 hd hlo
theorem s_iret {v : Int32} {ty : FieldType} (hd : decode (k_co j) pc = .ok (.ireturn, 1)) (hty : k_re j = some ty) (hnr : narrow ty (.int v) = .int v) (h1 : ce ≤ MC) (h2 : sl ≤ MS) (h3 : z_okR (some (.int v)) σ = true) (hp : Post (some (.int v)) σ) : AW l j rk MC MS n0 X Post pc L [.int v] σ ce sl := by
  intro p e s m args below meth c D cy ad0 A C ad ls H locs hag hn hle hlt hl hP hD hS
  obtain ⟨hx, hb, hml, hr, hlo, hin, hown, hts, hK, hE, hA⟩ := C
  refine W.widen (k := MC) (n := MS) h1 h2 ?_
  exact W.zret hx hb (hr.trans hty) hnr (fun t ht hW => ⟨⟨some (.int v), σ, ad, hp, h3, hn, Nat.le_trans hle (by omega), hlt, hag, rfl, by rw [ht]; exact hP, hD⟩, hS.F ht⟩) hS.2.2 hd hlo
theorem s_lret {v : Int64} (hd : decode (k_co j) pc = .ok (.lreturn, 1)) (hty : k_re j = some .long) (h1 : ce ≤ MC) (h2 : sl ≤ MS) (h3 : z_okR (some (.long v)) σ = true) (hp : Post (some (.long v)) σ) : AW l j rk MC MS n0 X Post pc L [.long v] σ ce sl := by
  intro p e s m args below meth c D cy ad0 A C ad ls H locs hag hn hle hlt hl hP hD hS
  obtain ⟨hx, hb, hml, hr, hlo, hin, hown, hts, hK, hE, hA⟩ := C
  refine W.widen (k := MC) (n := MS) h1 h2 ?_
  exact W.lret hx hb (hr.trans hty) (fun t ht hW => ⟨⟨some (.long v), σ, ad, hp, h3, hn, Nat.le_trans hle (by omega), hlt, hag, rfl, by rw [ht]; exact hP, hD⟩, hS.F ht⟩) hS.2.2 hd hlo
theorem s_aret {v : Nat} {nm : String} (hd : decode (k_co j) pc = .ok (.areturn, 1)) (hty : k_re j = some (.object nm)) (h1 : ce ≤ MC) (h2 : sl ≤ MS) (h3 : z_okR (some (.ref v)) σ = true) (hp : Post (some (.ref v)) σ) : AW l j rk MC MS n0 X Post pc L [.ref v] σ ce sl := by
  intro p e s m args below meth c D cy ad0 A C ad ls H locs hag hn hle hlt hl hP hD hS
  obtain ⟨hx, hb, hml, hr, hlo, hin, hown, hts, hK, hE, hA⟩ := C
  refine W.widen (k := MC) (n := MS) h1 h2 ?_
  exact W.aret hx hb (hr.trans hty) (Or.inl ⟨_, rfl⟩) (Or.inr ⟨_, rfl⟩) (fun t ht hW => ⟨⟨some (.ref v), σ, ad, hp, h3, hn, Nat.le_trans hle (by omega), hlt, hag, rfl, by rw [ht]; exact hP, hD⟩, hS.F ht⟩) hS.2.2 hd hlo
/-! a new cell: its place is the world's length -/
theorem z_ok1_lt {N k : Nat} (h : z_ok1 N k = true) : k < N ∨ 1000 ≤ k := by
  simp only [z_ok1, Bool.or_eq_true, Nat.blt_eq, Nat.ble_eq] at h
  exact h
theorem z_kn_congr {ad ad' : Nat → Nat} {N : Nat} (h : ∀ k, z_ok1 N k = true → ad k = ad' k) : ∀ (L : LC) (k : Nat), L.all (z_okO N) = true → z_kn ad k L = z_kn ad' k L := by
  intro L
  induction L with
  | nil => intro k _; rfl
  | cons o L ih =>
    intro k hk
    simp only [List.all_cons, Bool.and_eq_true] at hk
    cases o with
    | none => exact ih _ hk.2
    | some v => simp only [z_kn]; rw [ih _ hk.2, z_cv_congr h hk.1]
theorem s_alloc {nx ce' sl' : Nat} {cl : AE} {st0 : List Value} (hlen : σ.length ≤ 900) (hce : ce + 1 ≤ ce') (hok : z_okW σ.length L st σ = true) (hcl : ∀ cy (ad ad' : Nat → Nat), z_con cy ad cl = z_con cy ad' cl)
    (row : ∀ {p : Program} {e : Env} {s : State} {m : MethodId} {args : Array Value} {below : List Frame} {meth : Method} {c : Code} {D : va_G} {cy : Nat → ClassId} {ad0 : Nat → Nat} {A : Nat → Prop} (ad : Nat → Nat) {ls : Array Slot} {H : Heap} {locs : List Loc} {Q : State → Prop}, z_Cx l j X p s m args meth c D cy ad0 A → va_P D k_cl (z_wc cy ad 0 σ) H → va_D A (z_wc cy ad 0 σ) → va_S A s.heap H locs →
      (∀ (q : Nat) (H1 : Heap), va_P D k_cl (z_wc cy ad 0 σ ++ [(q, z_con cy ad cl)]) H1 → va_D A (z_wc cy ad 0 σ ++ [(q, z_con cy ad cl)]) → va_S A s.heap H1 locs → W p l e (z_rm rk MC MS) s m args below meth c H1 locs ce' sl' Q (F0 m nx ls (.ref q :: st.map (z_cv ad)))) →
      W p l e (z_rm rk MC MS) s m args below meth c H locs ce sl Q (F0 m pc ls (st0.map (z_cv ad))))
    (k : AW l j rk MC MS n0 X Post nx L (.ref σ.length :: st) (σ ++ [cl]) ce' sl') : AW l j rk MC MS n0 X Post pc L st0 σ ce sl := by
  intro p e s m args below meth c D cy ad0 A C ad ls H locs hag hn hle hlt hl hP hD hS
  refine row ad C hP hD hS (fun q H1 a1 a2 a3 => ?_)
  simp only [z_okW, Bool.and_eq_true] at hok
  obtain ⟨o1, o2, o3⟩ := hok
  have hsame : ∀ x, z_ok1 σ.length x = true → ad x = (fun k => if k = σ.length then q else ad k) x := by
    intro x hx
    have := z_ok1_lt hx
    show _ = if x = σ.length then q else ad x
    rw [if_neg (by omega)]
  have e1 : z_wc cy ad 0 σ ++ [(q, z_con cy ad cl)] = z_wc cy (fun k => if k = σ.length then q else ad k) 0 (σ ++ [cl]) := by
    rw [z_wc_app]
    congr 1
    · refine z_wc_congr (fun i hi => ?_) (fun c hc => z_con_congr hsame (List.all_eq_true.mp o3 c hc))
      show _ = if 0 + i = σ.length then q else ad (0 + i)
      rw [if_neg (by omega)]
    · simp only [z_wc, Nat.zero_add, if_true]
      rw [hcl cy ad]
  have e2 : ((Value.ref σ.length :: st).map (z_cv (fun k => if k = σ.length then q else ad k))) = .ref q :: st.map (z_cv ad) := by
    simp only [List.map_cons, z_cv, if_true]
    congr 1
    exact List.map_congr_left (fun v hv => (z_cv_congr hsame (List.all_eq_true.mp o2 v hv)).symm)
  rw [e1] at a1 a2
  have g := k p e s m args below meth c D cy ad0 A C (fun k => if k = σ.length then q else ad k) ls H1 locs (fun x hx => by
    show (if x = σ.length then q else ad x) = ad0 x
    rw [if_neg (by omega)]
    exact hag x hx) (by simp; omega) (by simp; omega) (by simp; omega) (by rw [← z_kn_congr hsame L 0 o1]; exact hl) a1 a2 a3
  rw [e2] at g
  exact g
theorem z_newfix (u : Nat) (ad : Nat → Nat) : (k_new.getD u []).map (z_cv ad) = k_new.getD u [] := by
  have h : ∀ q ∈ k_new, ∀ v ∈ q, z_cv ad v = v := by
    have h1 : k_new.all (fun q => q.all (fun v => match v with | .int _ => true | .null => true | _ => false)) = true := by decide +kernel
    intro q hq v hv
    have := List.all_eq_true.mp (List.all_eq_true.mp h1 q hq) v hv
    cases v <;> first | rfl | simp at this
  rw [List.getD_eq_getElem?_getD]
  cases hu : k_new[u]? with
  | none => rfl
  | some q =>
    simp only [Option.getD_some]
    exact (List.map_congr_left (h q (List.mem_of_getElem? hu))).trans (List.map_id _)
theorem s_new {x u : Nat} {r : vw_C} (hd : decode (k_co j) pc = .ok (.new x, 3)) (hq : (k_ci j, x, u) ∈ k_LC) (hu : k_cl[u]? = some r) (hce : ce + 1 ≤ MC) (hsl : sl + r.2.2 ≤ MS) (hlen : σ.length ≤ 900) (hok : z_okW σ.length L st σ = true)
    (k : AW l j rk MC MS n0 X Post (pc + 3) L (.ref σ.length :: st) (σ ++ [.inr (.inr (u, k_new.getD u []))]) (ce + 1) (sl + r.2.2)) : AW l j rk MC MS n0 X Post pc L st σ ce sl := by
  refine s_alloc (cl := .inr (.inr (u, k_new.getD u []))) hlen (Nat.le_refl _) hok (fun cy ad ad' => by simp only [z_con, z_newfix]) ?_ k
  intro p e s m args below meth c D cy ad0 A ad ls H locs Q C hP hD hS kk
  obtain ⟨hx, hb, hml, hr, hlo, hin, hown, hts, hK, hE, hA⟩ := C
  obtain ⟨c1, c2, c3, c4, c5⟩ := z_clok hu
  have hlt := z_ix11 hu
  have hcl := hts _ (z_inU (k_lc _ hq) rfl)
  have hin1 := hts _ (z_inU (k_lb _ c5) rfl)
  have hini := hts _ (z_inU (k_ln u (List.mem_range.mpr (by omega))) rfl)
  simp only [k_cLC, k_cB, k_cN, ← c4] at hcl hin1 hini
  simp only [z_con, z_newfix] at kk
  exact va_new (D := D) (ci := u) (C := r.1) (T := r.2.1) (N := r.2.2) (fs := k_new.getD u []) hx hb hts (z_wsU hu) (k_fty u) c1 hown hcl hin1 hini hK hP hD hS hA hu c3 (by simpa [z_rm] using hce) (by simpa [z_rm] using hsl) hd kk
theorem z_RA {U : State} {c1 c2 : ClassId} {ty : FieldType} (h1 : va_RA U c1 ty) (h2 : va_RA U c2 ty) : c1 = c2 := by
  cases ty with
  | object C => obtain ⟨_, _, _, _, _, a⟩ := h1; obtain ⟨_, _, _, _, _, b⟩ := h2; exact Option.some.inj (a.symm.trans b)
  | _ => exact Option.some.inj (Eq.trans (Eq.symm h1) h2)
theorem s_newa {at_ : ArrayType} {kd N : Nat} {ty : FieldType} (hd : decode (k_co j) pc = .ok (.newarray at_, 2)) (hty : newarray.typeOf at_ = ty) (hkd : ∀ cy, (z_tys cy)[kd]? = some (cy kd, ty)) (hw : Jvm.Cond.arrayClass ty ∈ z_U) (hdef : defaultValue ty = .int 0) (hby : componentBytes ty ≤ 8) (hN : N ≤ 100000) (hce : ce + 1 ≤ MC) (hsl : sl + N ≤ MS) (hlen : σ.length ≤ 900) (hok : z_okW σ.length L st σ = true)
    (k : AW l j rk MC MS n0 X Post (pc + 2) L (.ref σ.length :: st) (σ ++ [.inl (kd, N, fun _ => 0)]) (ce + 1) (sl + N)) : AW l j rk MC MS n0 X Post pc L (.int (nI N) :: st) σ ce sl := by
  refine s_alloc (st := st) (cl := .inl (kd, N, fun _ => 0)) hlen (Nat.le_refl (ce + 1)) hok (fun cy ad ad' => rfl) ?_ k
  intro p e s m args below meth c D cy ad0 A ad ls H locs Q C hP hD hS kk
  obtain ⟨hx, hb, hml, hr, hlo, hin, hown, hts, hK, hE, hA⟩ := C
  refine va_newa (atype := at_) (ty := ty) (N' := N) (a0 := (N, .inl (fun _ => 0))) hx hb (by rw [hty]; exact hts _ hw) hty hK hP hD hS hA (fun cA => by rw [hdef]; rfl) (nI_pos (by omega)) (nI_clamp (by omega)) (by
    have := Nat.mul_le_mul hN hby
    omega) (by simpa [z_rm] using hce) (by simpa [z_rm] using hsl) hd (fun q cA H1 b1 b2 b3 b4 => ?_)
  have e : cA = cy kd := by
    have r1 := (b1.2 4 (cA, ty) (by simp [z_tys])).2
    have r2 := (hK.2 kd (cy kd, ty) (hkd cy)).2
    exact z_RA r1 r2
  subst e
  exact kk q H1 b2 b3 b4
theorem s_newq {x N : Nat} (hd : decode (k_co j) pc = .ok (.anewarray x, 3)) (hq : (k_ci j, x, 6) ∈ k_LC) (hN : N ≤ 100000) (hce : ce + 1 ≤ MC) (hsl : sl + N ≤ MS) (hlen : σ.length ≤ 900) (hok : z_okW σ.length L st σ = true)
    (k : AW l j rk MC MS n0 X Post (pc + 3) L (.ref σ.length :: st) (σ ++ [.inr (.inl (List.replicate N none))]) (ce + 1) (sl + N)) : AW l j rk MC MS n0 X Post pc L (.int (nI N) :: st) σ ce sl := by
  have hz : ∀ cy (ad : Nat → Nat), z_con cy ad (.inr (.inl (List.replicate N none))) = .inl (cy 3, N, .inr (.inr (.inr (.inr (fun _ => none))))) := by
    intro cy ad
    simp only [z_con, List.length_replicate]
    congr 7
    funext i
    simp only [List.getD_eq_getElem?_getD, List.getElem?_replicate]
    split <;> rfl
  refine s_alloc (st := st) (cl := .inr (.inl (List.replicate N none))) hlen (Nat.le_refl (ce + 1)) hok (fun cy ad ad' => by rw [hz, hz]) ?_ k
  intro p e s m args below meth c D cy ad0 A ad ls H locs Q C hP hD hS kk
  simp only [hz] at kk
  obtain ⟨hx, hb, hml, hr, hlo, hin, hown, hts, hK, hE, hA⟩ := C
  refine va_newq (C := "ApprovalRoutes$State") (N' := N) hx hb hown (hts _ (z_inU (k_lc _ hq) rfl)) hE.2.2.2.2.2.2.2.1 hK hP hD hS hA (nI_pos (by omega)) (nI_clamp (by omega)) (by omega) (by simpa [z_rm] using hce) (by simpa [z_rm] using hsl) hd (fun q cA H1 b1 b2 b3 b4 => ?_)
  have e : cA = cy 3 := by
    have r1 := (b1.2 4 (cA, .object "ApprovalRoutes$State") (by simp [z_tys])).2
    have r2 := (hK.2 3 (cy 3, .object "ApprovalRoutes$State") rfl).2
    exact z_RA r1 r2
  subst e
  exact kk q H1 b2 b3 b4
end ZR
