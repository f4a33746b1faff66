theorem RR.push {sp ls sp' ls' : Nat → Int32} {w : Int} {R : List SE} {e : SE} (h : RR sp ls w R) (h1 : ∀ j, j < 6 * R.length → sp' j = sp j) (h2 : ∀ c, c < 6 → sp' (6 * R.length + c) = iI (sC e w c)) (h3 : ∀ j, j < 16 * R.length → ls' j = ls j) (h4 : ∀ x L, e.2.2.1 = some (x, L) → ∀ (j q : Nat), L[j]? = some q → ls' (16 * R.length + j) = iI (q : Int)) (h5 : ∀ x L, e.2.2.1 = some (x, L) → L.length ≤ 16) (h6 : ∀ (i : Nat) (e : SE), R[i]? = some e → ∀ x L, e.2.2.1 = some (x, L) → L.length ≤ 16) : RR sp' ls' w (R ++ [e]) := by
  intro i e' he
  by_cases hi : i < R.length
  · rw [List.getElem?_append_left hi] at he
    obtain ⟨g1, g2⟩ := h i e' he
    refine ⟨fun c hc => ?_, fun x L hx j q hj => ?_⟩
    · rw [h1 _ (by omega)]; exact g1 c hc
    · have hl := h6 i e' he x L hx
      have hjl := (List.getElem?_eq_some_iff.mp hj).1
      rw [h3 _ (by omega)]; exact g2 x L hx j q hj
  · rw [List.getElem?_append_right (by omega)] at he
    have hz : i - R.length < 1 := (List.getElem?_eq_some_iff.mp he).1
    have : i = R.length := by omega
    subst this
    rw [Nat.sub_self] at he
    cases he
    exact ⟨h2, h4⟩
/-- every step's line is short -/
def sOK (e : SE) : Prop := ∀ x L, e.2.2.1 = some (x, L) → 0 ≤ x ∧ x ≤ 9999 ∧ 1 ≤ L.length ∧ L.length ≤ 16 ∧ ∀ q ∈ L, q < 16
theorem getLast_at {L : List Nat} (h : 1 ≤ L.length) : L[L.length - 1]? = some (L.getLast?.getD 0) := by
  rw [List.getLast?_eq_getElem?]
  have : L.length - 1 < L.length := by omega
  rw [List.getElem?_eq_getElem this]; rfl
theorem aw_94 {l : Launch} {Post : Option Value → List AE → Prop} {sp ls ln f s t : Nat → Int32} {M : Od} {m : Mt} {R : List SE} {post : Nat} {d w yv : Int} {ak dy br ad dp lm rs o y : Int32} {x4 : Int32} {v8 v9 : Option Value} (hO : OKM M) (hm : mOK m) (hp : post < M.1 4) (hy0 : 0 ≤ yv) (hy1 : yv ≤ 999) (hw : ir w) (hlen : R.length < 12) (hRR : RR sp ls w R) (hsok : ∀ (i : Nat) (e : SE), R[i]? = some e → sOK e) (hres : aRes 0 ln ln dp lm (decF M m post yv))
    (hK : ∀ sp' ls', RR sp' ls' w (R ++ [(post, yv, decF M m post yv, reaF M m post d)]) → Post none (wR sp' ls' ln f s t (iI ((R.length : Int) + 1)) ak dy br ad dp lm rs (iI (mP m)) (iI (mV m)) (iI (mK m)) o y (iI w) (iI (mA m)) (iI (mL m)))) :
    AW l 36 31 0 0 10 none Post 94 [some (.ref 0), some (.ref 9), some (.int (iI post)), some (.int (iI d)), some (.int x4), some (.int (bI (decF M m post yv).isSome)), some (.int (iI (reaF M m post d))), some (.int (iI yv)), v8, v9] [] (wR sp ls ln f s t (iI R.length) ak dy br ad dp lm rs (iI (mP m)) (iI (mV m)) (iI (mK m)) o y (iI w) (iI (mA m)) (iI (mL m))) 0 0 := by
  have hcl : ∀ c : Nat, c < 6 → (iI (R.length : Int) * z_nn 6 0 + z_nn c 0).toNatClampNeg = 6 * R.length + c := by
    intro c hc
    rw [zn_i, zn_i, iI_mul, iI_add, iI_cl (by omega) (by omega)]; omega
  have hix : ∀ c : Nat, c < 6 → vp_in (iI (R.length : Int) * z_nn 6 0 + z_nn c 0) 72 := by
    intro c hc
    rw [zn_i, zn_i, iI_mul, iI_add, iI_in (by omega) (by omega)]; omega
  have hrea := reaF_rng M m post d
  cases hdec : decF M m post yv with
  | none =>
    refine AW.go (bs := b_Route_takeStep) [238] 200 t_Route_takeStep ?_
    refine And.intro (hix 0 (by omega)) ?_
    refine And.intro (hix 1 (by omega)) ?_
    refine And.intro (fun _ => ?_) (fun h => absurd (show bI false = 0 by decide) h)
    refine And.intro (hix 2 (by omega)) ?_
    refine And.intro (fun _ => ?_) (fun h => absurd (show bI false = 0 by decide) h)
    refine And.intro (hix 3 (by omega)) ?_
    refine And.intro (fun _ => ?_) (fun h => absurd (show bI false = 0 by decide) h)
    refine And.intro (hix 5 (by omega)) ?_
    refine And.intro (fun _ => ?_) (fun h => absurd (show bI false = 0 by decide) h)
    refine And.intro (hix 4 (by omega)) ?_
    show Post _ _
    rw [hcl 0 (by omega), hcl 1 (by omega), hcl 2 (by omega), hcl 3 (by omega), hcl 4 (by omega), hcl 5 (by omega), zn_i 1, iI_add]
    refine hK _ _ (hRR.push (fun j hj => ?_) (fun c hc => ?_) (fun _ _ => rfl) (fun x L h => by rw [hdec] at h; cases h) (fun x L h => by rw [hdec] at h; cases h) (fun i e he x L h => (hsok i e he x L h).2.2.2.1))
    · simp only [upd]
      rw [if_neg (by omega), if_neg (by omega), if_neg (by omega), if_neg (by omega), if_neg (by omega), if_neg (by omega)]
    · have : c = 0 ∨ c = 1 ∨ c = 2 ∨ c = 3 ∨ c = 4 ∨ c = 5 := by omega
      rcases this with rfl | rfl | rfl | rfl | rfl | rfl <;> simp [upd, sC, hdec] <;> rfl
  | some z =>
    obtain ⟨x, L⟩ := z
    rw [hdec] at hres
    obtain ⟨g1, g2, g3⟩ := hres.2 x L rfl
    obtain ⟨q1, q2, q3, q4, q5⟩ := decF_ok hO hm hp hdec
    have hdp : dp = iI ((L.length - 1 : Nat) : Int) := by rw [g2]; congr 1; omega
    have hlast : ln (L.length - 1) = iI ((L.getLast?.getD 0 : Nat) : Int) := by
      have := g3 (L.length - 1) _ (getLast_at q3)
      rw [Nat.zero_add] at this; exact this
    subst g1
    subst hdp
    have loop : ∀ (n i : Nat) (z : Int32) (sp' ls' : Nat → Int32), n = L.length - i → i ≤ L.length → z = iI (i : Int) → (∀ j, j < 16 * R.length → ls' j = ls j) → (∀ (j q : Nat), j < i → L[j]? = some q → ls' (16 * R.length + j) = iI (q : Int)) → (∀ j, j < 6 * R.length → sp' j = sp j) → (∀ c, c < 6 → sp' (6 * R.length + c) = iI (sC (post, yv, decF M m post yv, reaF M m post d) w c)) →
        AW l 36 31 0 0 10 none Post 238 [some (.ref 0), some (.ref 9), some (.int (iI post)), some (.int (iI d)), some (.int x4), some (.int (bI true)), some (.int (iI (reaF M m post d))), some (.int (iI yv)), some (.int (iI (R.length : Int) * z_nn 6 0)), some (.int z)] [] (wR sp' ls' ln f s t (iI R.length) ak dy br ad (iI ((L.length - 1 : Nat) : Int)) (iI x) rs (iI (mP m)) (iI (mV m)) (iI (mK m)) o y (iI w) (iI (mA m)) (iI (mL m))) 0 0 := by
      intro n
      induction n using Nat.strongRecOn with
      | ind n ih =>
        intro i z sp' ls' hn hi hz h1 h2 h3 h4
        subst hz
        refine AW.go (bs := b_Route_takeStep) [238] 100 t_Route_takeStep ?_
        refine And.intro (fun h => ?_) (fun h => ?_)
        · rw [zc_gt (by omega) (by omega) (by omega) (by omega)] at h
          show Post _ _
          rw [zn_i 1, iI_add]
          refine hK _ _ (hRR.push h3 h4 h1 (fun x' L' e j q hj => ?_) (fun x' L' e => ?_) (fun i e he x L h => (hsok i e he x L h).2.2.2.1))
          · rw [hdec] at e; cases e
            exact h2 j q (by have := (List.getElem?_eq_some_iff.mp hj).1; omega) hj
          · rw [hdec] at e; cases e; exact q4
        · rw [zc_gt (by omega) (by omega) (by omega) (by omega)] at h
          obtain ⟨e, he⟩ : ∃ e, L[i]? = some e := ⟨_, List.getElem?_eq_getElem (by omega)⟩
          have hli := g3 i e he
          rw [Nat.zero_add] at hli
          refine ⟨_, v_inLine l, by decide, ln, f, s, t, ak, dy, br, ad, _, _, rs, i, rfl, rfl, by omega, ?_⟩
          have ei : iI (R.length : Int) * z_nn 16 0 + iI (i : Int) = iI ((16 * R.length + i : Nat) : Int) := by
            rw [zn_i, iI_mul, iI_add]; congr 1; push_cast; omega
          show _ ∧ _
          rw [ei]
          refine And.intro (zN_in (by omega) (by omega)) ?_
          rw [zN_cl (by omega)]
          refine ih _ (by omega) (i + 1) _ sp' _ rfl (by omega) (zn_inc i) (fun j hj => ?_) (fun j q hj hq => ?_) h3 h4
          · unfold upd; rw [if_neg (by omega)]; exact h1 j hj
          · unfold upd
            by_cases e2 : j = i
            · subst e2
              rw [if_pos rfl, hli]
              rw [he] at hq; cases hq; rfl
            · rw [if_neg (by omega)]; exact h2 j q (by omega) hq
    refine AW.go (bs := b_Route_takeStep) [238] 200 t_Route_takeStep ?_
    refine And.intro (hix 0 (by omega)) ?_
    refine And.intro (hix 1 (by omega)) ?_
    refine And.intro (fun h => absurd h (show ¬ bI true = 0 by decide)) (fun _ => ?_)
    refine ⟨_, v_decider l, by decide, ln, f, s, t, ak, dy, br, ad, iI x, rs, L.length - 1, rfl, rfl, by omega, ?_⟩
    refine And.intro (hix 2 (by omega)) ?_
    refine And.intro (fun h => absurd h (show ¬ bI true = 0 by decide)) (fun _ => ?_)
    refine And.intro (hix 3 (by omega)) ?_
    refine And.intro (fun h => absurd h (show ¬ bI true = 0 by decide)) (fun _ => ?_)
    refine And.intro (hix 5 (by omega)) ?_
    refine And.intro (fun h => absurd h (show ¬ bI true = 0 by decide)) (fun _ => ?_)
    refine And.intro (fun h => ?_) (fun h => ?_)
    · rw [zc_lt (by omega) (by omega) hw.1 hw.2] at h
      refine And.intro (hix 4 (by omega)) ?_
      refine loop _ 0 _ _ ls rfl (by omega) rfl (fun _ _ => rfl) (fun j q hj => by omega) (fun j hj => ?_) (fun c hc => ?_)
      · rw [hcl 0 (by omega), hcl 1 (by omega), hcl 2 (by omega), hcl 3 (by omega), hcl 4 (by omega), hcl 5 (by omega)]
        simp only [upd]
        rw [if_neg (by omega), if_neg (by omega), if_neg (by omega), if_neg (by omega), if_neg (by omega), if_neg (by omega)]
      · rw [hcl 0 (by omega), hcl 1 (by omega), hcl 2 (by omega), hcl 3 (by omega), hcl 4 (by omega), hcl 5 (by omega)]
        have : c = 0 ∨ c = 1 ∨ c = 2 ∨ c = 3 ∨ c = 4 ∨ c = 5 := by omega
        rcases this with rfl | rfl | rfl | rfl | rfl | rfl
        · simp [upd, sC]
        · simp [upd, sC]
        · simp [upd, sC, hdec]; exact hlast
        · simp [upd, sC, hdec]
        · simp [upd, sC, hdec, h]; rfl
        · simp [upd, sC, hdec]; congr 1; omega
    · rw [zc_lt (by omega) (by omega) hw.1 hw.2] at h
      refine And.intro (hix 4 (by omega)) ?_
      refine loop _ 0 _ _ ls rfl (by omega) rfl (fun _ _ => rfl) (fun j q hj => by omega) (fun j hj => ?_) (fun c hc => ?_)
      · rw [hcl 0 (by omega), hcl 1 (by omega), hcl 2 (by omega), hcl 3 (by omega), hcl 4 (by omega), hcl 5 (by omega)]
        simp only [upd]
        rw [if_neg (by omega), if_neg (by omega), if_neg (by omega), if_neg (by omega), if_neg (by omega), if_neg (by omega)]
      · rw [hcl 0 (by omega), hcl 1 (by omega), hcl 2 (by omega), hcl 3 (by omega), hcl 4 (by omega), hcl 5 (by omega)]
        have : c = 0 ∨ c = 1 ∨ c = 2 ∨ c = 3 ∨ c = 4 ∨ c = 5 := by omega
        rcases this with rfl | rfl | rfl | rfl | rfl | rfl
        · simp [upd, sC]
        · simp [upd, sC]
        · simp [upd, sC, hdec]; exact hlast
        · simp [upd, sC, hdec]
        · simp [upd, sC, hdec, h]; rfl
        · simp [upd, sC, hdec]; congr 1; omega
