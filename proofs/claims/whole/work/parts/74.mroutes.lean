/-! the model: steps and routes -/
/-- what stands in the model of the one who decides -/
def mDec (ln : Nat → Int32) (lma lim : Int32) (r : Option (Int × List Nat)) : Prop := ∀ x L, r = some (x, L) → lim = iI x ∧ lma = iI L.length ∧ (∀ (i e : Nat), L[i]? = some e → ln i = iI (e : Int)) ∧ 1 ≤ L.length ∧ L.length ≤ 16 ∧ ∀ q ∈ L, q < 16
def sp_mputs : Sp := (0, 0, 0, pMd, fun as σ K => ∃ (now was kept isk ln sp ls ld tb rd : Nat → Int32) (und gon lef ak vn dy asd lma lim rea sts apr tz spo wro num nuA stl spe wan fou : Int32) (R : List SE) (e : SE) (w : Int), as = [.ref 0, .int (iI e.1), .int (iI e.2.1), .int (iI (decI e.2.2.1)), .int (iI (sC e w 4))] ∧ σ = (wMd now was kept isk ln sp ls ld tb rd und gon lef ak vn dy asd lma lim rea (iI R.length) apr tz spo wro num nuA stl spe wan fou) ∧ R.length < 12 ∧ RR sp ls w R ∧ (∀ e ∈ R, sOK e) ∧ mDec ln lma lim e.2.2.1 ∧
  ∀ sp' ls', RR sp' ls' w (R ++ [e]) → K none (some (wMd now was kept isk ln sp' ls' ld tb rd und gon lef ak vn dy asd lma lim rea (iI (R.length + 1 : Nat)) apr tz spo wro num nuA stl spe wan fou)))
set_option maxRecDepth 20000 in
theorem v_mputs (l : Launch) : z_V l 175 sp_mputs := by
  refine z_V.ofP (by decide +kernel) ?_
  rintro as σ K Post ⟨now, was, kept, isk, ln, sp, ls, ld, tb, rd, und, gon, lef, ak, vn, dy, asd, lma, lim, rea, sts, apr, tz, spo, wro, num, nuA, stl, spe, wan, fou, R, e, w, rfl, rfl, hlen, hRR, hsok, hdec, hK⟩ hP1 hP0
  obtain ⟨post, on, dec, rsn⟩ := e
  have hcl : ∀ c : Nat, c < 6 → (z_nn 6 0 * iI (R.length : Int) + z_nn c 0).toNatClampNeg = 6 * R.length + c := by
    intro c hc
    rw [zn_i, zn_i, iI_mul, iI_add, iI_cl (by omega) (by omega)]; omega
  have hix : ∀ c : Nat, c < 6 → vp_in (z_nn 6 0 * iI (R.length : Int) + z_nn c 0) 72 := by
    intro c hc
    rw [zn_i, zn_i, iI_mul, iI_add, iI_in (by omega) (by omega)]; omega
  have hc0 : (z_nn 6 0 * iI (R.length : Int)).toNatClampNeg = 6 * R.length := by
    rw [zn_i, iI_mul, iI_cl (by omega) (by omega)]; omega
  have hi0 : vp_in (z_nn 6 0 * iI (R.length : Int)) 72 := by
    rw [zn_i, iI_mul, iI_in (by omega) (by omega)]; omega
  have h6 : ∀ (i : Nat) (e : SE), R[i]? = some e → ∀ x L, e.2.2.1 = some (x, L) → L.length ≤ 16 := fun i e he x L h => (hsok e (List.mem_of_getElem? he) x L h).2.2.2.1
  cases dec with
  | none =>
    have z1 : z_nn 1 1 = iI (-1) := rfl
    refine AW.go (bs := b_Mod_puts) [] 200 t_Mod_puts ?_
    refine And.intro hi0 ?_
    refine And.intro (hix 1 (by omega)) ?_
    refine And.symm (And.intro (fun h => ?_) (fun h => absurd rfl h))
    refine And.intro (hix 2 (by omega)) ?_
    refine And.symm (And.intro (fun h => ?_) (fun h => absurd rfl h))
    refine And.intro (hix 3 (by omega)) ?_
    refine And.intro (hix 4 (by omega)) ?_
    refine And.symm (And.intro (fun h => ?_) (fun h => absurd rfl h))
    refine And.intro (hix 5 (by omega)) ?_
    have fin : ∀ sp' : Nat → Int32, sp' = upd (upd (upd (upd (upd (upd sp (z_nn 6 0 * iI (R.length : Int)).toNatClampNeg (iI (post : Int))) (z_nn 6 0 * iI (R.length : Int) + z_nn 1 0).toNatClampNeg (iI on)) (z_nn 6 0 * iI (R.length : Int) + z_nn 2 0).toNatClampNeg (z_nn 2 1)) (z_nn 6 0 * iI (R.length : Int) + z_nn 3 0).toNatClampNeg (z_nn 2 1)) (z_nn 6 0 * iI (R.length : Int) + z_nn 4 0).toNatClampNeg (iI (sC (post, on, none, rsn) w 4))) (z_nn 6 0 * iI (R.length : Int) + z_nn 5 0).toNatClampNeg (z_nn 2 1) → Post none (wMd now was kept isk ln sp' ls ld tb rd und gon lef ak vn dy asd lma lim rea (iI (R.length : Int) + z_nn 1 0) apr tz spo wro num nuA stl spe wan fou) := by
      intro sp' hsp
      subst hsp
      rw [zn_inc]
      refine hP1 _ _ (hK _ _ (hRR.push (fun j hj => ?_) (fun c hc => ?_) (fun _ _ => rfl) (fun x L h => by cases h) (fun x L h => by cases h) h6))
      · rw [hc0, hcl 1 (by omega), hcl 2 (by omega), hcl 3 (by omega), hcl 4 (by omega), hcl 5 (by omega)]
        simp only [upd]
        rw [if_neg (by omega), if_neg (by omega), if_neg (by omega), if_neg (by omega), if_neg (by omega), if_neg (by omega)]
      · rw [hc0, hcl 1 (by omega), hcl 2 (by omega), hcl 3 (by omega), hcl 4 (by omega), hcl 5 (by omega)]
        have : c = 0 ∨ c = 1 ∨ c = 2 ∨ c = 3 ∨ c = 4 ∨ c = 5 := by omega
        rcases this with rfl | rfl | rfl | rfl | rfl | rfl <;> simp [upd, sC] <;> rfl
    refine And.intro (fun h => fin _ rfl) (fun h => ?_)
    exact And.intro (fun h => fin _ rfl) (fun h => absurd rfl h)
  | some z =>
    obtain ⟨x, L⟩ := z
    obtain ⟨rfl, rfl, g3, g4, g5, g6⟩ := hdec x L rfl
    have hlp := lastP_rng g6
    have hne : ¬ z_cond .eq (iI (lastP L)) (z_nn 1 1) := mt (zc_eq (b := -1) (by omega) (by omega) (by omega) (by omega)).mp (by omega)
    have loop : ∀ (n i : Nat) (z : Int32) (ls' sp' : Nat → Int32), n = L.length - i → i ≤ L.length → z = iI (i : Int) → (∀ j, j < 16 * R.length → ls' j = ls j) → (∀ (j q : Nat), j < i → L[j]? = some q → ls' (16 * R.length + j) = iI (q : Int)) → (∀ j, j < 6 * R.length → sp' j = sp j) → (∀ c, c < 6 → sp' (6 * R.length + c) = iI (sC (post, on, some (x, L), rsn) w c)) →
        AW l 175 0 0 0 11 none Post 109 [some (.ref 0), some (.int (iI (post : Int))), some (.int (iI on)), some (.int (iI (lastP L))), some (.int (iI (sC (post, on, some (x, L), rsn) w 4))), some (.int (z_nn 6 0 * iI (R.length : Int))), some (.int z)] [] (wMd now was kept isk ln sp' ls' ld tb rd und gon lef ak vn dy asd (iI (L.length : Int)) (iI x) rea (iI (R.length : Int)) apr tz spo wro num nuA stl spe wan fou) 0 0 := by
      intro n
      induction n using Nat.strongRecOn with
      | ind n ih =>
        intro i z ls' sp' hn hi hz h1 h2 h3 h4
        subst hz
        refine AW.go (bs := b_Mod_puts) [109] 100 t_Mod_puts ?_
        refine And.intro (fun h => ?_) (fun h => ?_)
        · rw [zc_ge (by omega) (by omega) (by omega) (by omega)] at h
          show Post _ _
          rw [zn_inc]
          refine hP1 _ _ (hK _ _ (hRR.push h3 h4 h1 (fun x' L' e j q hj => ?_) (fun x' L' e => ?_) h6))
          · cases e
            exact h2 j q (by have := (List.getElem?_eq_some_iff.mp hj).1; omega) hj
          · cases e; exact g5
        rw [zc_ge (by omega) (by omega) (by omega) (by omega)] at h
        refine And.intro (fun h5 => absurd h5 hne) (fun _ => ?_)
        obtain ⟨e, he⟩ : ∃ e, L[i]? = some e := ⟨_, List.getElem?_eq_getElem (by omega)⟩
        refine And.intro (zN_in (by omega) (by omega)) ?_
        have ei : z_nn 16 0 * iI (R.length : Int) + iI (i : Int) = iI ((16 * R.length + i : Nat) : Int) := by
          rw [zn_i, iI_mul, iI_add]; congr 1
        show _ ∧ _
        rw [ei, zN_cl (by omega : i < 2147483648), g3 i e he]
        refine And.intro (zN_in (by omega) (by omega)) ?_
        show AW _ _ _ _ _ _ _ _ _ _ _ _ _ _
        rw [zN_cl (by omega)]
        refine ih _ (by omega) (i + 1) _ _ sp' rfl (by omega) (zn_inc i) (fun j hj => ?_) (fun j q hj hq => ?_) h3 h4
        · unfold upd; rw [if_neg (by omega)]; exact h1 j hj
        · unfold upd
          by_cases e2 : j = i
          · subst e2
            rw [if_pos rfl]
            rw [he] at hq; cases hq; rfl
          · rw [if_neg (by omega)]; exact h2 j q (by omega) hq
    refine AW.go (bs := b_Mod_puts) [109] 200 t_Mod_puts ?_
    refine And.intro hi0 ?_
    refine And.intro (hix 1 (by omega)) ?_
    refine And.intro (fun _ => ?_) (fun h => absurd hne h)
    refine And.intro (hix 2 (by omega)) ?_
    refine And.intro (fun _ => ?_) (fun h => absurd hne h)
    refine And.intro (hix 3 (by omega)) ?_
    refine And.intro (hix 4 (by omega)) ?_
    refine And.intro (fun _ => ?_) (fun h => absurd hne h)
    refine And.intro (hix 5 (by omega)) ?_
    refine loop _ 0 _ _ _ rfl (by omega) rfl (fun _ _ => rfl) (fun j q hj => by omega) (fun j hj => ?_) (fun c hc => ?_)
    · rw [hc0, hcl 1 (by omega), hcl 2 (by omega), hcl 3 (by omega), hcl 4 (by omega), hcl 5 (by omega)]
      simp only [upd]
      rw [if_neg (by omega), if_neg (by omega), if_neg (by omega), if_neg (by omega), if_neg (by omega), if_neg (by omega)]
    · rw [hc0, hcl 1 (by omega), hcl 2 (by omega), hcl 3 (by omega), hcl 4 (by omega), hcl 5 (by omega)]
      have : c = 0 ∨ c = 1 ∨ c = 2 ∨ c = 3 ∨ c = 4 ∨ c = 5 := by omega
      rcases this with rfl | rfl | rfl | rfl | rfl | rfl
      · simp [upd, sC]
      · simp [upd, sC]
      · simp [upd, sC]; rfl
      · simp [upd, sC]
      · simp [upd, sC]
      · simp only [upd, sC]; rw [if_pos trivial, zn_i, iI_sub]; rfl
def sp_mclimbs : Sp := (31, 0, 0, pMd, fun as σ K => ∃ (now was kept isk ln sp ls ld tb rd : Nat → Int32) (und gon lef ak vn dy asd lma lim rea sts apr tz spo wro num nuA stl spe wan fou : Int32) (M : Od) (m : Mt) (R : List SE) (o : Nat) (d w : Int) (z : Int32), as = [.ref 0, .int (iI o), .int (iI d), .int z, .int (iI w)] ∧ z = iI (mK m) ∧ σ = (wMd now was kept isk ln sp ls ld tb rd und (iI (mA m)) (iI (mL m)) (iI (mP m)) (iI (mV m)) dy asd lma lim rea (iI R.length) (iI 0) tz spo wro num nuA stl spe wan fou) ∧ RM now M ∧ OKM M ∧ mOK m ∧ o < M.1 4 ∧ 0 ≤ d ∧ d ≤ 999 ∧ ir w ∧ R.length < 12 ∧ RR sp ls w R ∧ (∀ e ∈ R, sOK e) ∧
  ∀ sp' ls' ln' dy' asd' lma' lim' rea', RR sp' ls' w (R ++ [stepF M m o d]) → K (some (.int (iI (stepF M m o d).2.1))) (some (wMd now was kept isk ln' sp' ls' ld tb rd und (iI (mA m)) (iI (mL m)) (iI (mP m)) (iI (mV m)) dy' asd' lma' lim' rea' (iI (R.length + 1 : Nat)) (bI (decide (sC (stepF M m o d) w 4 = 0))) tz spo wro num nuA stl spe wan fou)))
set_option maxRecDepth 20000 in
theorem v_mclimbs (l : Launch) : z_V l 176 sp_mclimbs := by
  refine z_V.ofP (by decide +kernel) ?_
  rintro as σ K Post ⟨now, was, kept, isk, ln, sp, ls, ld, tb, rd, und, gon, lef, ak, vn, dy, asd, lma, lim, rea, sts, apr, tz, spo, wro, num, nuA, stl, spe, wan, fou, M, m, R, o, d, w, z, rfl, rfl, rfl, hN, hO, hm, ho, d0, d1, ⟨w1, w2⟩, hlen, hRR, hsok, hK⟩ hP1 hP0
  have hx4 := hO.mx 4 (by omega)
  have hwt := hO.2.2.2.2.2.2.2.2.1
  have ht : now 7 = iI (M.2.2 2 : Nat) := hN.2.2 2 (by omega)
  have hl0 : d ≤ lastW M d ∧ lastW M d ≤ 999 := by unfold lastW; omega
  have loop : ∀ (n : Nat) (yv : Int) (x6 x7 : Int32) (v8 : Option Value) (ln : Nat → Int32) (dy asd lma lim rea : Int32), n = (lastW M d + 1 - yv).toNat → d ≤ yv → yv ≤ lastW M d + 1 → (yv ≠ d → x6 = iI (reaF M m o d)) → x7 = iI yv → (∀ i : Nat, (i : Int) < yv - d → decF M m o (d + i) = none) →
      AW l 176 31 0 0 11 none Post 38 [some (.ref 0), some (.int (iI o)), some (.int (iI d)), some (.int (iI (mK m))), some (.int (iI w)), some (.int (iI (lastW M d))), some (.int x6), some (.int x7), v8] [] (wMd now was kept isk ln sp ls ld tb rd und (iI (mA m)) (iI (mL m)) (iI (mP m)) (iI (mV m)) dy asd lma lim rea (iI R.length) (iI 0) tz spo wro num nuA stl spe wan fou) 0 0 := by
    intro n
    induction n using Nat.strongRecOn with
    | ind n ih =>
      intro yv x6 x7 v8 ln dy asd lma lim rea hn h1 h2 e6 e7 hno
      subst e7
      have dsk : ∀ (a : Nat), (a : Int) = yv - d → yv ≤ lastW M d → dayF M m o (lastW M d - d).toNat d = dayF M m o (lastW M d - yv).toNat yv := by
        intro a ha hy
        rw [dayF_skip a (lastW M d - d).toNat d (fun i hi => by rw [hno i (by omega)]; rfl) (by omega)]
        congr 1 <;> omega
      refine AW.go (bs := b_Mod_climbs) [38, 67, 112] 100 t_Mod_climbs ?_
      refine And.intro (fun h => ?_) (fun h => ?_)
      · rw [zc_gt (by omega) (by omega) (by omega) (by omega)] at h
        have hy : yv = lastW M d + 1 := by omega
        have hdl : decF M m o (lastW M d) = none := by
          have := hno (lastW M d - d).toNat (by omega)
          rw [show d + ((lastW M d - d).toNat : Int) = lastW M d by omega] at this
          exact this
        have hday : dayF M m o (lastW M d - d).toNat d = lastW M d := by
          rw [dayF_skip (lastW M d - d).toNat (lastW M d - d).toNat d (fun i hi => by rw [hno i (by omega)]; rfl) (Nat.le_refl _), Nat.sub_self, dayF]
          omega
        have hst : stepF M m o d = (o, lastW M d, none, reaF M m o d) := by unfold stepF; rw [hday, hdl]
        have e6' := e6 (by omega)
        subst e6'
        refine ⟨_, v_mputs l, by decide, _, _, _, _, _, _, _, _, _, _, _, _, _, _, _, _, _, _, _, _, 0, _, _, _, _, _, _, _, _, _, _, R, (o, lastW M d, none, reaF M m o d), w, rfl, rfl, hlen, hRR, hsok, fun x L e => (by cases e), fun sp' ls' hRR' => ?_⟩
        have hrr := reaF_rng M m o d
        rw [hst] at hK
        have := hK sp' ls' ln dy asd lma lim rea hRR'
        rw [show decide (sC (o, lastW M d, none, reaF M m o d) w 4 = 0) = false from decide_eq_false (by simp [sC]; omega)] at this
        exact hP1 _ _ this
      rw [zc_gt (by omega) (by omega) (by omega) (by omega)] at h
      refine ⟨_, v_mdecider l, by decide, _, _, _, _, _, _, _, _, _, _, _, 0, 0, 0, 0, _, _, _, _, _, _, _, _, _, _, _, _, _, _, _, _, M, m, o, yv, _, rfl, rfl, rfl, hN, hO, hm, ho, ⟨by omega, by omega⟩, fun ln2 asd2 lma2 lim2 rea2 hres => ?_⟩
      have core : ∀ (x6 : Int32), (decF M m o yv = none → x6 = iI (reaF M m o d)) → AW l 176 31 0 0 11 none Post 67 [some (.ref 0), some (.int (iI o)), some (.int (iI d)), some (.int (iI (mK m))), some (.int (iI w)), some (.int (iI (lastW M d))), some (.int x6), some (.int (iI yv)), some (.int (iI (decI (decF M m o yv))))] [] (wMd now was kept isk ln2 sp ls ld tb rd und (iI (mA m)) (iI (mL m)) (iI (mP m)) (iI (mV m)) (iI yv) asd2 lma2 lim2 rea2 (iI R.length) (iI 0) tz spo wro num nuA stl spe wan fou) 0 0 := by
        intro x6 e6
        cases hd : decF M m o yv with
        | none =>
          refine AW.go (bs := b_Mod_climbs) [38, 112] 100 t_Mod_climbs ?_
          refine And.symm (And.intro (fun _ => ?_) (fun h => absurd rfl h))
          refine ih _ (by omega) (yv + 1) _ _ _ _ _ _ _ _ _ rfl (by omega) (by omega) (fun _ => e6 hd) (by rw [zn_i, iI_add]; rfl) (fun i hi => ?_)
          by_cases q : (i : Int) < yv - d
          · exact hno i q
          · rw [show d + (i : Int) = yv by omega]; exact hd
        | some z =>
          obtain ⟨x, L⟩ := z
          obtain ⟨q1, q2, q3⟩ := hres.1 x L hd
          obtain ⟨o1, o2, o3, o4, o5⟩ := decF_ok hO hm ho hd
          subst q1; subst q2
          have hlp := lastP_rng o5
          have hne : ¬ z_cond .eq (iI (lastP L)) (z_nn 1 1) := mt (zc_eq (b := -1) (by omega) (by omega) (by omega) (by omega)).mp (by omega)
          have hday : dayF M m o (lastW M d - d).toNat d = yv := by
            rw [dsk (yv - d).toNat (by omega) (by omega), dayF_some (by rw [hd]; rfl)]
          have hst : stepF M m o d = (o, yv, some (x, L), reaF M m o d) := by unfold stepF; rw [hday, hd]
          have put : ∀ (a : Int) (ap : Int32), a = sC (o, yv, some (x, L), reaF M m o d) w 4 → ap = bI (decide (a = 0)) → AW l 176 31 0 0 11 none Post 112 [some (.ref 0), some (.int (iI o)), some (.int (iI d)), some (.int (iI (mK m))), some (.int (iI w)), some (.int (iI (lastW M d))), some (.int x6), some (.int (iI yv)), some (.int (iI (lastP L)))] [.int (iI a), .int (iI (lastP L)), .int (iI yv), .int (iI o), .ref 0] (wMd now was kept isk ln2 sp ls ld tb rd und (iI (mA m)) (iI (mL m)) (iI (mP m)) (iI (mV m)) (iI yv) asd2 (iI (L.length : Int)) (iI x) rea2 (iI R.length) ap tz spo wro num nuA stl spe wan fou) 0 0 := by
            intro a ap ha hap
            subst ha; subst hap
            refine AW.go (bs := b_Mod_climbs) [] 100 t_Mod_climbs ?_
            refine ⟨_, v_mputs l, by decide, _, _, _, _, _, _, _, _, _, _, _, _, _, _, _, _, _, _, _, _, 0, _, _, _, _, _, _, _, _, _, _, R, (o, yv, some (x, L), reaF M m o d), w, rfl, rfl, hlen, hRR, hsok, fun x' L' e => ?_, fun sp' ls' hRR' => ?_⟩
            · cases e
              exact ⟨rfl, rfl, q3, o3, o4, o5⟩
            · rw [hst] at hK
              exact hP1 _ _ (hK sp' ls' _ _ _ _ _ _ hRR')
          refine AW.go (bs := b_Mod_climbs) [38, 112] 100 t_Mod_climbs ?_
          refine And.intro (fun _ => ?_) (fun h => absurd hne h)
          refine And.intro (fun h3 => ?_) (fun h3 => ?_)
          · rw [zc_lt (by omega) (by omega) w1 w2] at h3
            refine And.intro (Or.inl rfl) ?_
            refine And.intro (fun _ => ?_) (fun h => absurd rfl h)
            exact put 1 _ (by simp [sC, h3]) rfl
          · rw [zc_lt (by omega) (by omega) w1 w2] at h3
            refine And.intro (Or.inr rfl) ?_
            refine And.symm (And.intro (fun _ => ?_) (fun h => absurd h (show ¬ (z_nn 1 0 = 0) by decide)))
            exact put 0 _ (by simp [sC, h3]) rfl
      refine And.symm (And.intro (fun h3 => ?_) (fun h3 => ?_))
      · rw [zc_ne (by omega) (by omega) (by omega) (by omega), Classical.not_not] at h3
        exact core _ (fun e => by rw [hres.2 e, h3])
      · rw [zc_ne (by omega) (by omega) (by omega) (by omega)] at h3
        exact core _ (fun _ => e6 h3)
  have hadd : iI d + iI (M.2.2 2 : Int) = iI (d + M.2.2 2) := iI_add _ _
  refine AW.go (bs := b_Mod_climbs) [38] 100 t_Mod_climbs ?_
  refine And.intro (zn_in (by omega) (by omega)) ?_
  show _ ∧ _
  rw [zn_cl (by omega), ht, hadd]
  refine And.intro (fun h => ?_) (fun h => ?_)
  · rw [zn_i, zc_ge (by omega) (by omega) (by omega) (by omega)] at h
    have e5 : z_nn 999 0 = iI (lastW M d) := by rw [zn_i]; congr 1; unfold lastW; omega
    show AW _ _ _ _ _ _ _ _ _ _ _ _ _ _
    rw [e5]
    exact loop _ d _ _ _ _ _ _ _ _ _ rfl (Int.le_refl _) (by omega) (fun e => absurd rfl e) rfl (fun i hi => by omega)
  · rw [zn_i, zc_ge (by omega) (by omega) (by omega) (by omega)] at h
    refine And.intro (zn_in (by omega) (by omega)) ?_
    have e5 : iI (d + (M.2.2 2 : Int)) = iI (lastW M d) := by congr 1; unfold lastW; omega
    show AW _ _ _ _ _ _ _ _ _ _ _ _ _ _
    rw [zn_cl (by omega), ht, hadd, e5]
    exact loop _ d _ _ _ _ _ _ _ _ _ rfl (Int.le_refl _) (by omega) (fun e => absurd rfl e) rfl (fun i hi => by omega)
