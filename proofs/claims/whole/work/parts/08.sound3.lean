/-! words of the tables, good ones -/
theorem z_inU {w : Cond} (h : w ∈ lw_tbl) (g : goodWord w = true) : w ∈ z_U := List.mem_filter.mpr ⟨h, g⟩
theorem z_ix11 {ci : Nat} {r : vw_C} (h : k_cl[ci]? = some r) : ci < 11 := (List.getElem?_eq_some_iff.mp h).1
theorem z_wsU {ci : Nat} {r : vw_C} (h : k_cl[ci]? = some r) : ∀ w ∈ u_ws r.1 r.2.1 r.2.2, w ∈ z_U := by
  have hg : ∀ w ∈ u_ws r.1 r.2.1 r.2.2, goodWord w = true := by
    intro w hw
    obtain ⟨k, -, rfl⟩ := List.mem_map.mp hw
    unfold u_lay
    split <;> rfl
  intro w hw
  refine z_inU ?_ (hg w hw)
  have hlt := z_ix11 h
  match ci, h, hlt with
  | 0, h, _ => cases h; exact k_ws0 w hw
  | 1, h, _ => cases h; exact k_ws1 w hw
  | 2, h, _ => cases h; exact k_ws2 w hw
  | 3, h, _ => cases h; exact k_ws3 w hw
  | 4, h, _ => cases h; exact k_ws4 w hw
  | 5, h, _ => cases h; exact k_ws5 w hw
  | 6, h, _ => cases h; exact k_ws6 w hw
  | 7, h, _ => cases h; exact k_ws7 w hw
  | 8, h, _ => cases h; exact k_ws8 w hw
  | 9, h, _ => cases h; exact k_ws9 w hw
  | 10, h, _ => cases h; exact k_ws10 w hw
  | n + 11, _, hl => omega
theorem z_clok {ci : Nat} {r : vw_C} (h : k_cl[ci]? = some r) : (∀ k, k < r.2.2 → parseFieldDescriptor (r.2.1 k).2.2.1 = some (k_fty ci k)) ∧ (∀ a, a < r.2.2 → ∀ b, b < r.2.2 → a ≠ b → (r.2.1 a).2.1 ≠ (r.2.1 b).2.1) ∧ (∀ k, k < r.2.2 → defaultValue (k_fty ci k) = vp_V (k_new.getD ci []) k) ∧ r.1 = k_cn ci ∧ (ci, r.2.2) ∈ k_LB := by
  have hlt := z_ix11 h
  match ci, h, hlt with
  | 0, h, _ => cases h; exact ⟨k_ty0, k_nm0, k_df0, by decide +kernel, by decide +kernel⟩
  | 1, h, _ => cases h; exact ⟨k_ty1, k_nm1, k_df1, by decide +kernel, by decide +kernel⟩
  | 2, h, _ => cases h; exact ⟨k_ty2, k_nm2, k_df2, by decide +kernel, by decide +kernel⟩
  | 3, h, _ => cases h; exact ⟨k_ty3, k_nm3, k_df3, by decide +kernel, by decide +kernel⟩
  | 4, h, _ => cases h; exact ⟨k_ty4, k_nm4, k_df4, by decide +kernel, by decide +kernel⟩
  | 5, h, _ => cases h; exact ⟨k_ty5, k_nm5, k_df5, by decide +kernel, by decide +kernel⟩
  | 6, h, _ => cases h; exact ⟨k_ty6, k_nm6, k_df6, by decide +kernel, by decide +kernel⟩
  | 7, h, _ => cases h; exact ⟨k_ty7, k_nm7, k_df7, by decide +kernel, by decide +kernel⟩
  | 8, h, _ => cases h; exact ⟨k_ty8, k_nm8, k_df8, by decide +kernel, by decide +kernel⟩
  | 9, h, _ => cases h; exact ⟨k_ty9, k_nm9, k_df9, by decide +kernel, by decide +kernel⟩
  | 10, h, _ => cases h; exact ⟨k_ty10, k_nm10, k_df10, by decide +kernel, by decide +kernel⟩
  | n + 11, _, hl => omega
theorem z_lfN : ∀ q ∈ k_LF, ∀ r, k_cl[q.2.2.1]? = some r → q.2.2.2 < r.2.2 := by
  have h : k_LF.all (fun q => match k_cl[q.2.2.1]? with | some r => decide (q.2.2.2 < r.2.2) | none => true) = true := by decide +kernel
  intro q hq r hr
  have := List.all_eq_true.mp h q hq
  simp only [hr] at this
  exact of_decide_eq_true this
theorem z_newN : ∀ ci r, k_cl[ci]? = some r → (k_new.getD ci []).length = r.2.2 := by
  have h : (List.range 11).all (fun ci => match k_cl[ci]? with | some r => decide ((k_new.getD ci []).length = r.2.2) | none => true) = true := by decide +kernel
  intro ci r hr
  have := List.all_eq_true.mp h ci (List.mem_range.mpr (z_ix11 hr))
  simp only [hr] at this
  exact of_decide_eq_true this
section ZH
variable {l : Launch} {j rk MC MS n0 : Nat} {X : Option (Nat × (Nat → Int32))} {Post : Option Value → List AE → Prop} {pc : Nat} {L : LC} {st : List Value} {σ : List AE} {ce sl : Nat}
theorem z_wc0 {cy : Nat → ClassId} {ad : Nat → Nat} {a : Nat} {c : AE} (h : σ[a]? = some c) : (z_wc cy ad 0 σ)[a]? = some (ad a, z_con cy ad c) := by
  rw [z_wc_at, h]; simp
theorem s_getf {x t u a : Nat} {fs : List Value} {v : Value} (hd : decode (k_co j) pc = .ok (.getfield x, 3)) (hq : (k_ci j, x, u, t) ∈ k_LF) (hc : σ[a]? = some (.inr (.inr (u, fs)))) (hv : fs[t]? = some v)
    (k : AW l j rk MC MS n0 X Post (pc + 3) L (v :: st) σ ce sl) : AW l j rk MC MS n0 X Post pc L (.ref a :: st) σ ce sl := by
  intro p e s m args below meth c D cy ad0 A C ad ls H locs hag hn hle hlt hl hP hD hS
  have g := k p e s m args below meth c D cy ad0 A C ad ls H locs hag hn hle hlt hl hP hD hS
  obtain ⟨hx, hb, hml, hr, hlo, hin, hown, hts, hK, hE, hA⟩ := C
  have he := z_wc0 (cy := cy) (ad := ad) hc
  obtain ⟨r, hr1, -⟩ := hP a _ he
  have hlk := hts _ (z_inU (k_lf _ hq) rfl)
  simp only [k_cLF, k_ff, hr1] at hlk
  exact va_get (D := D) (ci := u) (C := r.1) (T := r.2.1) (N := r.2.2) (ref := (r.2.1 t).1) (index := x) hx hb hts (z_wsU hr1) hown hK hP a he hr1 t (z_lfN _ hq r hr1) hlk (fun _ h => h) (v := z_cv ad v) (by simp [hv]) hd g
theorem s_putf {x t u a : Nat} {fs : List Value} {v : Value} (hd : decode (k_co j) pc = .ok (.putfield x, 3)) (hq : (k_ci j, x, u, t) ∈ k_LF) (hc : σ[a]? = some (.inr (.inr (u, fs)))) (hlen : t < fs.length)
    (hfin : ∀ r, k_cl[u]? = some r → (r.2.1 t).2.2.2 = true → k_ki j = 2 ∧ (r.2.1 t).1 = k_cn (k_ci j)) (hn1 : ∀ ad, narrow (k_fty u t) (z_cv ad v) = z_cv ad v) (hf1 : ∀ ad, fits (k_fty u t) (z_cv ad v) = true)
    (k : AW l j rk MC MS n0 X Post (pc + 3) L st (σ.set a (.inr (.inr (u, fs.set t v)))) ce sl) : AW l j rk MC MS n0 X Post pc L (v :: .ref a :: st) σ ce sl := by
  intro p e s m args below meth c D cy ad0 A C ad ls H locs hag hn hle hlt hl hP hD hS
  have g := fun H1 locs1 => k p e s m args below meth c D cy ad0 A C ad ls H1 locs1 hag (by simpa using hn) (by simpa using hle) (by simpa using hlt) hl
  obtain ⟨hx, hb, hml, hr, hlo, hin, hown, hts, hK, hE, hA⟩ := C
  have he := z_wc0 (cy := cy) (ad := ad) hc
  obtain ⟨r, hr1, -⟩ := hP a _ he
  have hlk := hts _ (z_inU (k_lf _ hq) rfl)
  simp only [k_cLF, k_ff, hr1] at hlk
  obtain ⟨c1, c2, -, -, -⟩ := z_clok hr1
  have hN := z_lfN _ hq r hr1
  have hset : (z_wc cy ad 0 σ).set a (ad a, .inr (u, (fs.map (z_cv ad)).set t (z_cv ad v))) = z_wc cy ad 0 (σ.set a (.inr (.inr (u, fs.set t v)))) := by
    rw [z_wc_set]
    simp [z_con, List.map_set]
  cases hfn : (r.2.1 t).2.2.2 with
  | false =>
    refine va_put (D := D) (ci := u) (C := r.1) (T := r.2.1) (N := r.2.2) (ref := (r.2.1 t).1) (index := x) hx hb hts (z_wsU hr1) (k_fty u) c1 c2 hown hK hP hD hS a he hr1 t hN hlk (fun _ h => h) hfn (c1 t hN) (hn1 ad) (hf1 ad) (by simpa using hlen) hd (fun H1 locs1 a1 a2 a3 => ?_)
    rw [hset] at a1 a2
    exact g H1 locs1 a1 a2 a3
  | true =>
    obtain ⟨f1, f2⟩ := hfin r hr1 hfn
    refine va_putF (D := D) (ci := u) (C := r.1) (T := r.2.1) (N := r.2.2) (ref := (r.2.1 t).1) (index := x) hx hb hts (z_wsU hr1) (k_fty u) c1 c2 hown hK hP hD hS a he hr1 t hN hlk (fun _ h => h) hfn (hin f1) f2 (c1 t hN) (hn1 ad) (hf1 ad) (by simpa using hlen) hd (fun H1 locs1 a1 a2 a3 => ?_)
    rw [hset] at a1 a2
    exact g H1 locs1 a1 a2 a3
theorem s_iald {a n : Nat} {f : Nat → Int32} {i : Int32} (hd : decode (k_co j) pc = .ok (.iaload, 1)) (hc : σ[a]? = some (.inl (0, n, f))) (hi : vp_in i n) (k : AW l j rk MC MS n0 X Post (pc + 1) L (.int (f i.toNatClampNeg) :: st) σ ce sl) : AW l j rk MC MS n0 X Post pc L (.int i :: .ref a :: st) σ ce sl := by
  intro p e s m args below meth c D cy ad0 A C ad ls H locs hag hn hle hlt hl hP hD hS
  have g := k p e s m args below meth c D cy ad0 A C ad ls H locs hag hn hle hlt hl hP hD hS
  obtain ⟨hx, hb, hml, hr, hlo, hin, hown, hts, hK, hE, hA⟩ := C
  exact va_iald hx hb hK hP a 0 (z_wc0 hc) rfl hi hd g
theorem s_bald {a n : Nat} {f : Nat → Int32} {i : Int32} {kd : Nat} (hd : decode (k_co j) pc = .ok (.baload, 1)) (hkd : kd = 1 ∨ kd = 2) (hc : σ[a]? = some (.inl (kd, n, f))) (hi : vp_in i n) (k : AW l j rk MC MS n0 X Post (pc + 1) L (.int (f i.toNatClampNeg) :: st) σ ce sl) : AW l j rk MC MS n0 X Post pc L (.int i :: .ref a :: st) σ ce sl := by
  intro p e s m args below meth c D cy ad0 A C ad ls H locs hag hn hle hlt hl hP hD hS
  have g := k p e s m args below meth c D cy ad0 A C ad ls H locs hag hn hle hlt hl hP hD hS
  obtain ⟨hx, hb, hml, hr, hlo, hin, hown, hts, hK, hE, hA⟩ := C
  rcases hkd with rfl | rfl
  · exact va_bald hx hb hK hP a 1 (z_wc0 hc) rfl hi hd g
  · exact va_zald hx hb hK hP a 2 (z_wc0 hc) rfl hi hd g
theorem s_iast {a n : Nat} {f : Nat → Int32} {i x : Int32} (hd : decode (k_co j) pc = .ok (.iastore, 1)) (hc : σ[a]? = some (.inl (0, n, f))) (hi : vp_in i n) (k : AW l j rk MC MS n0 X Post (pc + 1) L st (σ.set a (.inl (0, n, upd f i.toNatClampNeg x))) ce sl) : AW l j rk MC MS n0 X Post pc L (.int x :: .int i :: .ref a :: st) σ ce sl := by
  intro p e s m args below meth c D cy ad0 A C ad ls H locs hag hn hle hlt hl hP hD hS
  have g := fun H1 locs1 => k p e s m args below meth c D cy ad0 A C ad ls H1 locs1 hag (by simpa using hn) (by simpa using hle) (by simpa using hlt) hl
  rw [z_wc_set] at g
  simp only [Nat.zero_add] at g
  obtain ⟨hx, hb, hml, hr, hlo, hin, hown, hts, hK, hE, hA⟩ := C
  exact va_iast hx hb hK hP hD hS a 0 (z_wc0 hc) rfl hi hd g
theorem s_bast {a n : Nat} {f : Nat → Int32} {i x : Int32} (hd : decode (k_co j) pc = .ok (.bastore, 1)) (hc : σ[a]? = some (.inl (1, n, f))) (hi : vp_in i n) (k : AW l j rk MC MS n0 X Post (pc + 1) L st (σ.set a (.inl (1, n, upd f i.toNatClampNeg (vp_nar .byte x)))) ce sl) : AW l j rk MC MS n0 X Post pc L (.int x :: .int i :: .ref a :: st) σ ce sl := by
  intro p e s m args below meth c D cy ad0 A C ad ls H locs hag hn hle hlt hl hP hD hS
  have g := fun H1 locs1 => k p e s m args below meth c D cy ad0 A C ad ls H1 locs1 hag (by simpa using hn) (by simpa using hle) (by simpa using hlt) hl
  rw [z_wc_set] at g
  simp only [Nat.zero_add] at g
  obtain ⟨hx, hb, hml, hr, hlo, hin, hown, hts, hK, hE, hA⟩ := C
  exact va_bast hx hb hK hP hD hS a 1 (z_wc0 hc) rfl hi hd g
theorem s_zast {a n : Nat} {f : Nat → Int32} {i x : Int32} (hd : decode (k_co j) pc = .ok (.bastore, 1)) (hc : σ[a]? = some (.inl (2, n, f))) (hi : vp_in i n) (k : AW l j rk MC MS n0 X Post (pc + 1) L st (σ.set a (.inl (2, n, upd f i.toNatClampNeg (vp_nar .boolean x)))) ce sl) : AW l j rk MC MS n0 X Post pc L (.int x :: .int i :: .ref a :: st) σ ce sl := by
  intro p e s m args below meth c D cy ad0 A C ad ls H locs hag hn hle hlt hl hP hD hS
  have g := fun H1 locs1 => k p e s m args below meth c D cy ad0 A C ad ls H1 locs1 hag (by simpa using hn) (by simpa using hle) (by simpa using hlt) hl
  rw [z_wc_set] at g
  simp only [Nat.zero_add] at g
  obtain ⟨hx, hb, hml, hr, hlo, hin, hown, hts, hK, hE, hA⟩ := C
  exact va_zast hx hb hK hP hD hS a 2 (z_wc0 hc) rfl hi hd g
theorem s_aald {a g : Nat} {rs : List (Option Nat)} {i : Int32} (hd : decode (k_co j) pc = .ok (.aaload, 1)) (hc : σ[a]? = some (.inr (.inl rs))) (hi : vp_in i rs.length) (hg : rs[i.toNatClampNeg]? = some (some g)) (k : AW l j rk MC MS n0 X Post (pc + 1) L (.ref g :: st) σ ce sl) : AW l j rk MC MS n0 X Post pc L (.int i :: .ref a :: st) σ ce sl := by
  intro p e s m args below meth c D cy ad0 A C ad ls H locs hag hn hle hlt hl hP hD hS
  have kk := k p e s m args below meth c D cy ad0 A C ad ls H locs hag hn hle hlt hl hP hD hS
  obtain ⟨hx, hb, hml, hr, hlo, hin, hown, hts, hK, hE, hA⟩ := C
  refine va_aldq hx hb hK hP a 3 (z_wc0 hc) rfl hi hd ?_
  simp only [List.getD_eq_getElem?_getD, hg, Option.getD_some, Option.map_some]
  exact kk
theorem s_aast {a g ci : Nat} {rs : List (Option Nat)} {fs : List Value} {i : Int32} (hd : decode (k_co j) pc = .ok (.aastore, 1)) (hc : σ[a]? = some (.inr (.inl rs))) (hg : σ[g]? = some (.inr (.inr (ci, fs)))) (hci : ci = 6) (hi : vp_in i rs.length) (k : AW l j rk MC MS n0 X Post (pc + 1) L st (σ.set a (.inr (.inl (rs.set i.toNatClampNeg (some g))))) ce sl) : AW l j rk MC MS n0 X Post pc L (.ref g :: .int i :: .ref a :: st) σ ce sl := by
  intro p e s m args below meth c D cy ad0 A C ad ls H locs hag hn hle hlt hl hP hD hS
  have kk := fun H1 locs1 => k p e s m args below meth c D cy ad0 A C ad ls H1 locs1 hag (by simpa using hn) (by simpa using hle) (by simpa using hlt) hl
  obtain ⟨hx, hb, hml, hr, hlo, hin, hown, hts, hK, hE, hA⟩ := C
  subst hci
  have hlt2 : i.toNatClampNeg < rs.length := Nat.not_le.mp fun q => hi (Or.inr q)
  have hset : (z_wc cy ad 0 σ).set a (ad a, .inl (cy 3, rs.length, .inr (.inr (.inr (.inr (va_up (fun i => (rs.getD i none).map ad) i.toNatClampNeg (some (ad g)))))))) = z_wc cy ad 0 (σ.set a (.inr (.inl (rs.set i.toNatClampNeg (some g))))) := by
    rw [z_wc_set]
    simp only [z_con, List.length_set, Nat.zero_add]
    congr 9
    funext q
    simp only [va_up, List.getD_eq_getElem?_getD, List.getElem?_set]
    by_cases e : q = i.toNatClampNeg
    · subst e; simp [hlt2]
    · simp [e, Ne.symm e]
  refine va_astq hx hb hK hP hD hS a 3 g 6 (r := ("ApprovalRoutes$State", k_T6, 3)) (z_wc0 hc) rfl (z_wc0 hg) rfl hi hd (fun H1 locs1 a1 a2 a3 => ?_)
  rw [hset] at a1 a2
  exact kk H1 locs1 a1 a2 a3
/-! static arrays, texts, the script -/
theorem s_sald {i : Nat} {xs : List Nat} {x : Int32} (hd : decode (k_co j) pc = .ok (.iaload, 1)) (hi : k_SA[i]? = some xs) (hx1 : vp_in x xs.length) (k : AW l j rk MC MS n0 X Post (pc + 1) L (.int (nI (xs.getD x.toNatClampNeg 0)) :: st) σ ce sl) : AW l j rk MC MS n0 X Post pc L (.int x :: .ref (3000 + i) :: st) σ ce sl := by
  intro p e s m args below meth c D cy ad0 A C ad ls H locs hag hn hle hlt hl hP hD hS
  have g := k p e s m args below meth c D cy ad0 A C ad ls H locs hag hn hle hlt hl hP hD hS
  obtain ⟨hx, hb, hml, hr, hlo, hin, hown, hts, hK, hE, hA⟩ := C
  have hT := (hE.1 i xs hi).2
  rw [← hag (3000 + i) (Or.inr (by omega))] at hT
  exact va_ti hx hb hT hS hx1 rfl hd g
theorem s_tald {i : Nat} {xs : List Nat} {x : Int32} (hd : decode (k_co j) pc = .ok (.baload, 1)) (hi : k_str[i]? = some xs) (hx1 : vp_in x xs.length) (k : AW l j rk MC MS n0 X Post (pc + 1) L (.int (nI (xs.getD x.toNatClampNeg 0)) :: st) σ ce sl) : AW l j rk MC MS n0 X Post pc L (.int x :: .ref (5000 + i) :: st) σ ce sl := by
  intro p e s m args below meth c D cy ad0 A C ad ls H locs hag hn hle hlt hl hP hD hS
  have g := k p e s m args below meth c D cy ad0 A C ad ls H locs hag hn hle hlt hl hP hD hS
  obtain ⟨hx, hb, hml, hr, hlo, hin, hown, hts, hK, hE, hA⟩ := C
  have hT := (hE.2.2.2.1 i xs hi).2.2.2
  rw [← hag (5000 + i) (Or.inr (by omega))] at hT
  exact va_tb hx hb hT hS hx1 rfl hd g
theorem s_tlen {i : Nat} {xs : List Nat} (hd : decode (k_co j) pc = .ok (.arraylength, 1)) (hi : k_str[i]? = some xs) (k : AW l j rk MC MS n0 X Post (pc + 1) L (.int (nI xs.length) :: st) σ ce sl) : AW l j rk MC MS n0 X Post pc L (.ref (5000 + i) :: st) σ ce sl := by
  intro p e s m args below meth c D cy ad0 A C ad ls H locs hag hn hle hlt hl hP hD hS
  have g := k p e s m args below meth c D cy ad0 A C ad ls H locs hag hn hle hlt hl hP hD hS
  obtain ⟨hx, hb, hml, hr, hlo, hin, hown, hts, hK, hE, hA⟩ := C
  have hT := (hE.2.2.2.1 i xs hi).2.2.2
  rw [← hag (5000 + i) (Or.inr (by omega))] at hT
  exact va_tlen hx hb hT hS rfl hd g
theorem s_scr {q : Nat × (Nat → Int32)} {x : Int32} (hd : decode (k_co j) pc = .ok (.iaload, 1)) (hX : X = some q) (hx1 : vp_in x q.1) (k : AW l j rk MC MS n0 X Post (pc + 1) L (.int (q.2 x.toNatClampNeg) :: st) σ ce sl) : AW l j rk MC MS n0 X Post pc L (.int x :: .ref 4000 :: st) σ ce sl := by
  intro p e s m args below meth c D cy ad0 A C ad ls H locs hag hn hle hlt hl hP hD hS
  have g := k p e s m args below meth c D cy ad0 A C ad ls H locs hag hn hle hlt hl hP hD hS
  obtain ⟨hx, hb, hml, hr, hlo, hin, hown, hts, hK, hE, hA⟩ := C
  obtain ⟨g1, g2, g3⟩ := hE.2.2.2.2.2.2.2.2 q hX
  rw [← hag 4000 (Or.inr (by omega))] at g1 g2 g3
  exact va_sld hx hb g1 g2 g3 hS hx1 hd g
theorem s_slen {q : Nat × (Nat → Int32)} (hd : decode (k_co j) pc = .ok (.arraylength, 1)) (hX : X = some q) (k : AW l j rk MC MS n0 X Post (pc + 1) L (.int (nI q.1) :: st) σ ce sl) : AW l j rk MC MS n0 X Post pc L (.ref 4000 :: st) σ ce sl := by
  intro p e s m args below meth c D cy ad0 A C ad ls H locs hag hn hle hlt hl hP hD hS
  have g := k p e s m args below meth c D cy ad0 A C ad ls H locs hag hn hle hlt hl hP hD hS
  obtain ⟨hx, hb, hml, hr, hlo, hin, hown, hts, hK, hE, hA⟩ := C
  obtain ⟨g1, g2, g3⟩ := hE.2.2.2.2.2.2.2.2 q hX
  rw [← hag 4000 (Or.inr (by omega))] at g1 g2 g3
  exact va_slen hx hb g1 g2 g3 hS hd g
theorem s_sgetf {x t i : Nat} {xs : List Nat} (hd : decode (k_co j) pc = .ok (.getfield x, 3)) (hq : (k_ci j, x, 12, t) ∈ k_LF) (hi : k_str[i]? = some xs) {v : Value} (hv : (t = 0 ∧ v = .ref (5000 + i)) ∨ (t = 1 ∧ v = .int 0)) (k : AW l j rk MC MS n0 X Post (pc + 3) L (v :: st) σ ce sl) : AW l j rk MC MS n0 X Post pc L (.ref (2000 + i) :: st) σ ce sl := by
  intro p e s m args below meth c D cy ad0 A C ad ls H locs hag hn hle hlt hl hP hD hS
  have g := k p e s m args below meth c D cy ad0 A C ad ls H locs hag hn hle hlt hl hP hD hS
  obtain ⟨hx, hb, hml, hr, hlo, hin, hown, hts, hK, hE, hA⟩ := C
  have hlk := hts _ (z_inU (k_lf _ hq) rfl)
  obtain ⟨-, h1, h2, -⟩ := hE.2.2.2.1 i xs hi
  rw [← hag (2000 + i) (Or.inr (by omega))] at h1 h2
  rw [← hag (5000 + i) (Or.inr (by omega))] at h2
  rcases hv with ⟨rfl, rfl⟩ | ⟨rfl, rfl⟩
  · exact vk_getf hx hb h2 hS hown hlk (fun _ h => h) hd g
  · exact vk_getf hx hb h1 hS hown hlk (fun _ h => h) hd g
theorem s_gets {x t : Nat} (hd : decode (k_co j) pc = .ok (.getstatic x, 3)) (hq : (k_ci j, x, t) ∈ k_LS ∨ (k_ci j, x, t) ∈ k_LSN) {xs : List Nat} (hi : k_SA[t]? = some xs) (k : AW l j rk MC MS n0 X Post (pc + 3) L (.ref (3000 + t) :: st) σ ce sl) : AW l j rk MC MS n0 X Post pc L st σ ce sl := by
  intro p e s m args below meth c D cy ad0 A C ad ls H locs hag hn hle hlt hl hP hD hS
  have g := k p e s m args below meth c D cy ad0 A C ad ls H locs hag hn hle hlt hl hP hD hS
  obtain ⟨hx, hb, hml, hr, hlo, hin, hown, hts, hK, hE, hA⟩ := C
  have hZ := (hE.1 t xs hi).1
  rw [← hag (3000 + t) (Or.inr (by omega))] at hZ
  rcases hq with hq | hq
  · exact va_gets hx hb hZ hS hown (hts _ (z_inU (k_ls _ hq) rfl)) (fun _ h => h) hd g
  · have hw : (Jvm.Cond.fieldLinkNest (k_cn (k_ci j)) x (k_sg t).1 (k_sg t).2.1 (k_sg t).2.2 "ApprovalRoutes").before args s = true := va_Nw.use (w := .fieldLinkNest (k_cn (k_ci j)) x (k_sg t).1 (k_sg t).2.1 (k_sg t).2.2 "ApprovalRoutes") rfl (hE.2.2.2.2.2.2.1 (k_ci j, x, t) hq)
    exact va_getsN (host := "ApprovalRoutes") hx hb hZ hS hown hw (fun _ h => h) hd g
theorem s_gets6 {x : Nat} (hd : decode (k_co j) pc = .ok (.getstatic x, 3)) (hq : (k_ci j, x, 6) ∈ k_LS) (k : AW l j rk MC MS n0 X Post (pc + 3) L (.int 1 :: st) σ ce sl) : AW l j rk MC MS n0 X Post pc L st σ ce sl := by
  intro p e s m args below meth c D cy ad0 A C ad ls H locs hag hn hle hlt hl hP hD hS
  have g := k p e s m args below meth c D cy ad0 A C ad ls H locs hag hn hle hlt hl hP hD hS
  obtain ⟨hx, hb, hml, hr, hlo, hin, hown, hts, hK, hE, hA⟩ := C
  exact va_gets hx hb hE.2.1 hS hown (hts _ (z_inU (k_ls _ hq) rfl)) (fun _ h => h) hd g
theorem s_gets7 {x : Nat} (hd : decode (k_co j) pc = .ok (.getstatic x, 3)) (hq : (k_ci j, x, 7) ∈ k_LS) (k1 : AW l j rk MC MS n0 X Post (pc + 3) L (.null :: st) σ ce sl) (k2 : AW l j rk MC MS n0 X Post (pc + 3) L (.ref 6000 :: st) σ ce sl) : AW l j rk MC MS n0 X Post pc L st σ ce sl := by
  intro p e s m args below meth c D cy ad0 A C ad ls H locs hag hn hle hlt hl hP hD hS
  have g1 := k1 p e s m args below meth c D cy ad0 A C ad ls H locs hag hn hle hlt hl hP hD hS
  have g2 := k2 p e s m args below meth c D cy ad0 A C ad ls H locs hag hn hle hlt hl hP hD hS
  obtain ⟨hx, hb, hml, hr, hlo, hin, hown, hts, hK, hE, hA⟩ := C
  rcases hE.2.2.1 with hZ | hZ
  · exact va_gets hx hb hZ hS hown (hts _ (z_inU (k_ls _ hq) rfl)) (fun _ h => h) hd g1
  · rw [← hag 6000 (Or.inr (by omega))] at hZ
    exact va_gets hx hb hZ hS hown (hts _ (z_inU (k_ls _ hq) rfl)) (fun _ h => h) hd g2
theorem s_ldcS {x t : Nat} (hd : decode (k_co j) pc = .ok (.ldc x, 2)) (hq : (k_ci j, x, t) ∈ k_LT) (k : AW l j rk MC MS n0 X Post (pc + 2) L (.ref (2000 + t) :: st) σ ce sl) : AW l j rk MC MS n0 X Post pc L st σ ce sl := by
  intro p e s m args below meth c D cy ad0 A C ad ls H locs hag hn hle hlt hl hP hD hS
  have g := k p e s m args below meth c D cy ad0 A C ad ls H locs hag hn hle hlt hl hP hD hS
  obtain ⟨hx, hb, hml, hr, hlo, hin, hown, hts, hK, hE, hA⟩ := C
  have hZ := hE.2.2.2.2.1 _ hq
  rw [← hag (2000 + t) (Or.inr (by omega))] at hZ
  exact va_ldcS hx hb hown hZ hd g
theorem s_ldcSW {x t : Nat} (hd : decode (k_co j) pc = .ok (.ldc_w x, 3)) (hq : (k_ci j, x, t) ∈ k_LT) (k : AW l j rk MC MS n0 X Post (pc + 3) L (.ref (2000 + t) :: st) σ ce sl) : AW l j rk MC MS n0 X Post pc L st σ ce sl := by
  intro p e s m args below meth c D cy ad0 A C ad ls H locs hag hn hle hlt hl hP hD hS
  have g := k p e s m args below meth c D cy ad0 A C ad ls H locs hag hn hle hlt hl hP hD hS
  obtain ⟨hx, hb, hml, hr, hlo, hin, hown, hts, hK, hE, hA⟩ := C
  have hZ := hE.2.2.2.2.1 _ hq
  rw [← hag (2000 + t) (Or.inr (by omega))] at hZ
  intro T hT Y
  obtain ⟨t1, a1, b1⟩ := g T hT Y
  exact ⟨t1, Y.ldcStringW hx hown hZ.1 hZ.2 (g := F0 m pc ls (st.map (z_cv ad))) rfl (by rw [hb]; exact hd) t1 a1, b1⟩
/-! Math, arraycopy, Object's constructor -/
theorem z_cs_eq (ad : Nat → Nat) (vs : List Value) : ((vs.map (z_cv ad)).map fun v => v.category).sum = z_cs vs := by
  induction vs with
  | nil => rfl
  | cons v vs ih => simp only [List.map_cons, List.sum_cons, z_cs, ih, z_cv_cat]
theorem s_max {x : Nat} {a b : Int32} (hd : decode (k_co j) pc = .ok (.invokestatic x, 3)) (hq : (k_ci j, x, 1000) ∈ k_LX) (hz : z_cs st ≤ 8) (hce : ce ≤ MC) (hsl : sl ≤ MS) (k : AW l j rk MC MS n0 X Post (pc + 3) L (.int (if a < b then b else a) :: st) σ ce sl) : AW l j rk MC MS n0 X Post pc L (.int b :: .int a :: st) σ ce sl := by
  intro p e s m args below meth c D cy ad0 A C ad ls H locs hag hn hle hlt hl hP hD hS
  have g := k p e s m args below meth c D cy ad0 A C ad ls H locs hag hn hle hlt hl hP hD hS
  obtain ⟨hx, hb, hml, hr, hlo, hin, hown, hts, hK, hE, hA⟩ := C
  have hh := z_cs_eq ad st
  exact va_mmax hx hb (hml.trans hl.1.symm) hown (hts _ (z_inU (k_lx _ hq) rfl)) (hts _ (z_inU (k_lxx 0 (by decide)) rfl)) (hts _ (z_inU (k_ln 17 (by decide)) rfl)) (hts _ (z_inU (k_lxx 2 (by decide)) rfl)) (by simp [z_rm]) (by rw [hh]; simp only [z_rm]; omega) (by simpa [z_rm] using hce) (by simpa [z_rm] using hsl) hd g
theorem s_min {x : Nat} {a b : Int32} (hd : decode (k_co j) pc = .ok (.invokestatic x, 3)) (hq : (k_ci j, x, 1001) ∈ k_LX) (hz : z_cs st ≤ 8) (hce : ce ≤ MC) (hsl : sl ≤ MS) (k : AW l j rk MC MS n0 X Post (pc + 3) L (.int (if b < a then b else a) :: st) σ ce sl) : AW l j rk MC MS n0 X Post pc L (.int b :: .int a :: st) σ ce sl := by
  intro p e s m args below meth c D cy ad0 A C ad ls H locs hag hn hle hlt hl hP hD hS
  have g := k p e s m args below meth c D cy ad0 A C ad ls H locs hag hn hle hlt hl hP hD hS
  obtain ⟨hx, hb, hml, hr, hlo, hin, hown, hts, hK, hE, hA⟩ := C
  have hh := z_cs_eq ad st
  exact va_mmin hx hb (hml.trans hl.1.symm) hown (hts _ (z_inU (k_lx _ hq) rfl)) (hts _ (z_inU (k_lxx 1 (by decide)) rfl)) (hts _ (z_inU (k_ln 17 (by decide)) rfl)) (hts _ (z_inU (k_lxx 3 (by decide)) rfl)) (by simp [z_rm]) (by rw [hh]; simp only [z_rm]; omega) (by simpa [z_rm] using hce) (by simpa [z_rm] using hsl) hd g
theorem s_copy {x a b m0 m1 : Nat} {f g : Nat → Int32} {sp dp n : Int32} (hd : decode (k_co j) pc = .ok (.invokestatic x, 3)) (hq : (k_ci j, x, 1002) ∈ k_LX) (hz : z_cs st ≤ 8) (ha : σ[a]? = some (.inl (0, m0, f))) (hb1 : σ[b]? = some (.inl (0, m1, g)))
    (h1 : ¬ sp < 0) (h2 : ¬ dp < 0) (h3 : ¬ n < 0) (h4 : sp.toNatClampNeg + n.toNatClampNeg ≤ m0) (h5 : dp.toNatClampNeg + n.toNatClampNeg ≤ m1) (k : AW l j rk MC MS n0 X Post (pc + 3) L st (σ.set b (.inl (0, m1, va_cpy f g sp.toNatClampNeg dp.toNatClampNeg n.toNatClampNeg))) ce sl) : AW l j rk MC MS n0 X Post pc L (.int n :: .int dp :: .ref b :: .int sp :: .ref a :: st) σ ce sl := by
  intro p e s m args below meth c D cy ad0 A C ad ls H locs hag hn hle hlt hl hP hD hS
  have kk := fun H1 locs1 => k p e s m args below meth c D cy ad0 A C ad ls H1 locs1 hag (by simpa using hn) (by simpa using hle) (by simpa using hlt) hl
  rw [z_wc_set] at kk
  simp only [Nat.zero_add] at kk
  obtain ⟨hx, hb, hml, hr, hlo, hin, hown, hts, hK, hE, hA⟩ := C
  have hh := z_cs_eq ad st
  have hw : nativeFrameWords "java/lang/System" "arraycopy" 5 = 7 := by decide +kernel
  exact va_copyi hx hb (hml.trans hl.1.symm) hown (hts _ (z_inU (k_lx _ hq) rfl)) (hts _ (z_inU (k_lxx 4 (by decide)) rfl)) (hts _ (z_inU (k_lxx 5 (by decide)) rfl)) (hts _ (z_inU (k_lxx 6 (by decide)) rfl)) hK hP hD hS a b 0 0 (z_wc0 ha) (z_wc0 hb1) rfl rfl rfl h1 h2 h3 h4 h5 (fun _ _ => rfl) (by simp [z_rm]) (by rw [hh, hw]; simp only [z_rm]; omega) hd kk
theorem s_objInit {x a : Nat} (hd : decode (k_co j) pc = .ok (.invokespecial x, 3)) (hq : (k_ci j, x, 1003) ∈ k_LX) (hz : z_cs st ≤ 8) (k : AW l j rk MC MS n0 X Post (pc + 3) L st σ ce sl) : AW l j rk MC MS n0 X Post pc L (.ref a :: st) σ ce sl := by
  intro p e s m args below meth c D cy ad0 A C ad ls H locs hag hn hle hlt hl hP hD hS
  have g := k p e s m args below meth c D cy ad0 A C ad ls H locs hag hn hle hlt hl hP hD hS
  obtain ⟨hx, hb, hml, hr, hlo, hin, hown, hts, hK, hE, hA⟩ := C
  have hh := z_cs_eq ad st
  exact W.objInit hx hb hown (hts _ (z_inU (k_lx _ hq) rfl)) (hts _ (z_inU (k_lxx 7 (by decide)) rfl)) (hts _ (z_inU (k_lxx 8 (by decide)) rfl)) rfl (hl.1.trans hml.symm) (a := ad a) (rest := st.map (z_cv ad)) rfl hd (by simp [z_rm]) (by rw [hh]; show 2 * 0 + _ + _ ≤ _; simp only [z_rm]; omega) g
end ZH
