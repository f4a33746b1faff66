/-- a contract out of the walk, with the end as a name -/
theorem z_V.ofP {l : Launch} {j : Nat} {sp : Sp} (hp : plainName (k_cn (k_ci j)) = true)
    (h : ∀ as σ K (Post : Option Value → List AE → Prop), sp.2.2.2.2 as σ K → (∀ r σ', K r (some σ') → Post r σ') → (∀ r, K r none → Post r σ) → z_ent as (k_nL j) (fun L => AW l j sp.1 sp.2.1 sp.2.2.1 σ.length none Post 0 L [] σ 0 0)) : z_V l j sp :=
  z_V.of hp (fun as σ K ht => h as σ K _ ht (fun _ _ q => Or.inr q) (fun _ q => Or.inl ⟨rfl, q⟩))
def sp_takeStep : Sp := (31, 0, 0, pR, fun as σ K => ∃ (sp ls ln f s t : Nat → Int32) (M : Od) (m : Mt) (R : List SE) (post : Nat) (d w : Int) (ak dy br ad dp lm rs o y : Int32), as = [.ref 0, .ref 9, .int (iI post), .int (iI d)] ∧ σ = wR sp ls ln f s t (iI R.length) ak dy br ad dp lm rs (iI (mP m)) (iI (mV m)) (iI (mK m)) o y (iI w) (iI (mA m)) (iI (mL m)) ∧ RS f s t M ∧ OKM M ∧ mOK m ∧ post < M.1 4 ∧ 0 ≤ d ∧ d ≤ 999 ∧ ir w ∧ R.length < 12 ∧ RR sp ls w R ∧ (∀ e ∈ R, sOK e) ∧
  ∀ sp' ls' ln' ak' dy' br' ad' dp' lm' rs', RR sp' ls' w (R ++ [stepF M m post d]) → K none (some (wR sp' ls' ln' f s t (iI ((R.length : Int) + 1)) ak' dy' br' ad' dp' lm' rs' (iI (mP m)) (iI (mV m)) (iI (mK m)) o y (iI w) (iI (mA m)) (iI (mL m)))))
theorem v_takeStep (l : Launch) : z_V l 36 sp_takeStep := by
  refine z_V.ofP (by decide +kernel) ?_
  rintro as σ K Post ⟨sp, ls, ln, f, s, t, M, m, R, post, d, w, ak, dy, br, ad, dp, lm, rs, o, y, rfl, rfl, hR, hO, hm, hp, d0, d1, hw, hlen, hRR, hsok, hK⟩ hP1 hP0
  have hwt := hO.2.2.2.2.2.2.2.2.1
  have ht : t 2 = iI (M.2.2 2 : Int) := hR.2.2 2 (by omega)
  have hp40 := hR.max40 4 (by omega)
  have hl0 : d ≤ lastW M d ∧ lastW M d ≤ 999 := by unfold lastW; omega
  have loop : ∀ (n : Nat) (yv : Int) (x5 x7 : Int32) (ln' : Nat → Int32) (ak dy br ad dp lm rs : Int32) (v8 v9 : Option Value), n = (lastW M d - yv).toNat → d ≤ yv → yv ≤ lastW M d → x5 = bI (decF M m post yv).isSome → x7 = iI yv → aRes 0 ln' ln' dp lm (decF M m post yv) → dayF M m post (lastW M d - yv).toNat yv = dayF M m post (lastW M d - d).toNat d →
      AW l 36 31 0 0 10 none Post 43 [some (.ref 0), some (.ref 9), some (.int (iI post)), some (.int (iI d)), some (.int (iI (lastW M d))), some (.int x5), some (.int (iI (reaF M m post d))), some (.int x7), v8, v9] [] (wR sp ls ln' f s t (iI R.length) ak dy br ad dp lm rs (iI (mP m)) (iI (mV m)) (iI (mK m)) o y (iI w) (iI (mA m)) (iI (mL m))) 0 0 := by
    intro n
    induction n using Nat.strongRecOn with
    | ind n ih =>
      intro yv x5 x7 ln' ak dy br ad dp lm rs v8 v9 hn h1 h2 hx5 hx7 hres hday
      subst hx5; subst hx7
      have fin : ∀ (v8 v9 : Option Value), dayF M m post (lastW M d - d).toNat d = yv → AW l 36 31 0 0 10 none Post 94 [some (.ref 0), some (.ref 9), some (.int (iI post)), some (.int (iI d)), some (.int (iI (lastW M d))), some (.int (bI (decF M m post yv).isSome)), some (.int (iI (reaF M m post d))), some (.int (iI yv)), v8, v9] [] (wR sp ls ln' f s t (iI R.length) ak dy br ad dp lm rs (iI (mP m)) (iI (mV m)) (iI (mK m)) o y (iI w) (iI (mA m)) (iI (mL m))) 0 0 := by
        intro v8 v9 e
        refine aw_94 hO hm hp (by omega) (by omega) hw hlen hRR (fun i e he => hsok e (List.mem_of_getElem? he)) hres (fun sp' ls' hh => hP1 _ _ (hK sp' ls' ln' ak dy br ad dp lm rs ?_))
        unfold stepF
        rw [e]
        exact hh
      refine AW.go (bs := b_Route_takeStep) [43, 94] 100 t_Route_takeStep ?_
      refine And.intro (fun h => ?_) (fun h => ?_)
      · rw [zc_bne] at h
        exact fin _ _ (by rw [← hday, dayF_some h])
      · rw [zc_bne] at h
        have hno : (decF M m post yv).isSome = false := by simpa using h
        refine And.intro (fun h3 => ?_) (fun h3 => ?_)
        · rw [zc_ge (by omega) (by omega) (by omega) (by omega)] at h3
          exact fin _ _ (by rw [← hday, show (lastW M d - yv).toNat = 0 by omega]; rfl)
        · rw [zc_ge (by omega) (by omega) (by omega) (by omega)] at h3
          refine ⟨_, v_nextChange l, by decide, f, s, t, rfl, M, yv, rfl, hR, hO, by omega, by omega, fun nx hnx => ?_⟩
          obtain ⟨n1, n2, -⟩ := id hnx
          show ∃ sp : Sp, _
          rw [zn_i 1, iI_add, min_iI (by omega) (by omega) (by omega) (by omega), max_iI (by omega) (by omega) (by omega) (by omega)]
          obtain ⟨y', hy'⟩ : ∃ y', y' = max (yv + 1) (min (lastW M d) nx) := ⟨_, rfl⟩
          rw [show ((1 : Nat) : Int) = 1 from rfl, ← hy']
          have hb : yv < y' ∧ y' ≤ lastW M d ∧ y' ≤ nx := by omega
          refine ⟨_, v_ask l, by decide, ln', f, s, t, M, m, post, y', ak, dy, br, ad, dp, lm, rs, o, y, iI w, rfl, rfl, hR, hO, hm, hp, ⟨by omega, by omega⟩, fun ln2 ak2 dy2 br2 ad2 dp2 lm2 hr2 => ?_⟩
          refine ih _ (by omega) y' _ _ ln2 ak2 dy2 br2 ad2 dp2 lm2 _ _ _ rfl (by omega) (by omega) rfl rfl ⟨fun _ _ => rfl, hr2.2⟩ ?_
          rw [← hday, dayF_skip (y' - yv).toNat (lastW M d - yv).toNat yv (fun i hi => ?_) (by omega)]
          · congr 1 <;> omega
          · rw [decF_chg hnx (by omega) (by omega)]; exact hno
  refine AW.go (bs := b_Route_takeStep) [43, 94] 100 t_Route_takeStep ?_
  refine And.intro (zn_in (by omega) (by omega)) ?_
  show ∃ sp : Sp, _
  rw [zn_cl (by omega), ht, iI_add, zn_i 999, min_iI (by omega) (by omega) (by omega) (by omega)]
  refine ⟨_, v_ask l, by decide, ln, f, s, t, M, m, post, d, ak, dy, br, ad, dp, lm, rs, o, y, iI w, rfl, rfl, hR, hO, hm, hp, ⟨by omega, by omega⟩, fun ln2 ak2 dy2 br2 ad2 dp2 lm2 hr2 => ?_⟩
  exact loop _ d _ _ ln2 ak2 dy2 br2 ad2 dp2 lm2 _ _ _ rfl (Int.le_refl _) hl0.1 rfl rfl ⟨fun _ _ => rfl, hr2.2⟩ rfl
