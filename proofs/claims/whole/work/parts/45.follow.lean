/-! a route to its end -/
theorem stepF_ok {M : Od} (hO : OKM M) {m : Mt} (hm : mOK m) {post : Nat} (hp : post < M.1 4) {d : Int} (d0 : 0 ≤ d) (d1 : d ≤ 999) : rOK (stepF M m post d) := by
  have h1 := hO.2.2.2.2.2.2.2.2.2 4 (by omega)
  rw [x_4] at h1
  have h2 := dayF_rng M m post (lastW M d - d).toNat d
  have h3 : d ≤ lastW M d ∧ lastW M d ≤ 999 := by unfold lastW; omega
  refine ⟨by show post < 12; omega, by show 0 ≤ dayF _ _ _ _ _; omega, by show dayF _ _ _ _ _ ≤ 999; omega, fun x L h => decF_ok hO hm hp h, (reaF_rng M m post d).1, (reaF_rng M m post d).2⟩
def routeF (M : Od) (m : Mt) (w : Int) : Nat → Int → Int → List SE
  | 0, _, _ => []
  | n + 1, p, d => if 0 ≤ p ∧ p < M.1 4 ∧ d ≤ 999 then (if sC (stepF M m p.toNat d) w 4 = 0 then [stepF M m p.toNat d] else stepF M m p.toNat d :: routeF M m w n (M.2.1 4 p.toNat 0) ((stepF M m p.toNat d).2.1 + M.2.2 1)) else []
theorem routeF_ok {M : Od} (hO : OKM M) {m : Mt} (hm : mOK m) (w : Int) : ∀ (n : Nat) (p d : Int), 0 ≤ d → (∀ e ∈ routeF M m w n p d, rOK e) ∧ (routeF M m w n p d).length ≤ n := by
  intro n
  induction n with
  | zero => intro p d _; exact ⟨fun e he => absurd he (by simp [routeF]), Nat.le_refl _⟩
  | succ n ih =>
    intro p d hd
    unfold routeF
    split
    · next h =>
      have h1 := stepF_ok hO hm (post := p.toNat) (by omega) hd h.2.2
      split
      · exact ⟨fun e he => by rw [List.mem_singleton] at he; subst he; exact h1, by simp⟩
      · have h2 := ih (M.2.1 4 p.toNat 0) ((stepF M m p.toNat d).2.1 + M.2.2 1) (by have := h1.2.1; omega)
        refine ⟨fun e he => ?_, by simp; exact h2.2⟩
        rw [List.mem_cons] at he
        rcases he with rfl | he
        · exact h1
        · exact h2.1 e he
    · exact ⟨fun e he => absurd he (by simp), by simp⟩
def sp_follow : Sp := (32, 0, 0, pR, fun as σ K => ∃ (sp ls ln f s t : Nat → Int32) (M : Od) (m : Mt) (o y w : Int) (len ak dy br ad dp lm rs : Int32), as = [.ref 0, .ref 9] ∧ σ = wR sp ls ln f s t len ak dy br ad dp lm rs (iI (mP m)) (iI (mV m)) (iI (mK m)) (iI o) (iI y) (iI w) (iI (mA m)) (iI (mL m)) ∧ RS f s t M ∧ OKM M ∧ mOK m ∧ ir o ∧ 0 ≤ y ∧ y ≤ 9999 ∧ ir w ∧
  ∀ sp' ls' ln' ak' dy' br' ad' dp' lm' rs', RR sp' ls' w (routeF M m w 12 o y) → K none (some (wR sp' ls' ln' f s t (iI ((routeF M m w 12 o y).length : Int)) ak' dy' br' ad' dp' lm' rs' (iI (mP m)) (iI (mV m)) (iI (mK m)) (iI o) (iI y) (iI w) (iI (mA m)) (iI (mL m)))))
theorem lC_snoc (R : List SE) (e : SE) (w : Int) (c : Nat) : lC (R ++ [e]) w c = sC e w c := by
  unfold lC; rw [List.getLast?_concat]
theorem v_follow (l : Launch) : z_V l 33 sp_follow := by
  refine z_V.ofP (by decide +kernel) ?_
  rintro as σ K Post ⟨sp, ls, ln, f, s, t, M, m, o, y, w, len, ak, dy, br, ad, dp, lm, rs, rfl, rfl, hR, hO, hm, ⟨o1, o2⟩, y0, y1, hw, hK⟩ hP1 hP0
  have hpc := hO.2.2.2.2.2.2.2.1
  have ht : t 1 = iI (M.2.2 1 : Int) := hR.2.2 1 (by omega)
  have hx4 := hO.2.2.2.2.2.2.2.2.2 4 (by omega)
  rw [x_4] at hx4
  have loop : ∀ (n : Nat) (R : List SE) (p d : Int) (xd xl : Int32) (sp ls ln : Nat → Int32) (ak dy br ad dp lm rs : Int32), R.length + n = 12 → ir p → 0 ≤ d → d ≤ 9999 → xd = iI d → xl = iI (R.length : Int) → RR sp ls w R → (∀ e ∈ R, rOK e) → R ++ routeF M m w n p d = routeF M m w 12 o y →
      AW l 33 32 0 0 10 none Post 18 [some (.ref 0), some (.ref 9), some (.int (iI p)), some (.int xd), some (.int xl)] [] (wR sp ls ln f s t (iI R.length) ak dy br ad dp lm rs (iI (mP m)) (iI (mV m)) (iI (mK m)) (iI o) (iI y) (iI w) (iI (mA m)) (iI (mL m))) 0 0 := by
    intro n
    induction n with
    | zero =>
      intro R p d xd xl sp ls ln ak dy br ad dp lm rs hn hp d0 d1 hxd hxl hRR hok he
      subst hxd; subst hxl
      rw [routeF, List.append_nil] at he
      subst he
      refine AW.go (bs := b_Route_follow) [18] 80 t_Route_follow ?_
      refine And.intro (fun h => ?_) (fun h => ?_)
      · exact hP1 _ _ (hK sp ls ln ak dy br ad dp lm rs hRR)
      · rw [zn_i, zc_ge (by omega) (by omega) (by omega) (by omega)] at h; omega
    | succ n ih =>
      intro R p d xd xl sp ls ln ak dy br ad dp lm rs hn hp d0 d1 hxd hxl hRR hok he
      subst hxd; subst hxl
      refine AW.go (bs := b_Route_follow) [18] 80 t_Route_follow ?_
      refine And.intro (fun h => ?_) (fun h => ?_)
      · rw [zn_i, zc_ge (by omega) (by omega) (by omega) (by omega)] at h; omega
      · refine ⟨_, v_has l, by decide, f, s, t, rfl, M, 4, p, rfl, hR, by omega, hp, ?_⟩
        have fin : routeF M m w (n + 1) p d = [] → Post none (wR sp ls ln f s t (iI R.length) ak dy br ad dp lm rs (iI (mP m)) (iI (mV m)) (iI (mK m)) (iI o) (iI y) (iI w) (iI (mA m)) (iI (mL m))) := by
          intro e0
          rw [e0, List.append_nil] at he
          subst he
          exact hP1 _ _ (hK sp ls ln ak dy br ad dp lm rs hRR)
        refine And.intro (fun h => ?_) (fun h => ?_)
        · rw [zc_beq, decide_eq_false_iff_not] at h
          exact fin (by rw [routeF, if_neg (by omega)])
        · rw [zc_beq, decide_eq_false_iff_not, Classical.not_not] at h
          refine And.intro (fun h2 => ?_) (fun h2 => ?_)
          · rw [zn_i, zc_ge (by omega) (by omega) (by omega) (by omega)] at h2
            exact fin (by rw [routeF, if_neg (by omega)])
          · rw [zn_i, zc_ge (by omega) (by omega) (by omega) (by omega)] at h2
            obtain ⟨q, rfl⟩ : ∃ q : Nat, p = (q : Int) := ⟨p.toNat, by omega⟩
            have hq : q < M.1 4 := by omega
            have hst := stepF_ok hO hm hq d0 (by omega)
            rw [routeF, if_pos ⟨by omega, by omega, by omega⟩, Int.toNat_natCast] at he
            refine ⟨_, v_takeStep l, by decide, sp, ls, ln, f, s, t, M, m, R, q, d, w, ak, dy, br, ad, dp, lm, rs, iI o, iI y, rfl, rfl, hR, hO, hm, hq, d0, by omega, hw, by omega, hRR, fun e h => (hok e h).2.2.2.1, fun sp' ls' ln' ak' dy' br' ad' dp' lm' rs' hRR' => ?_⟩
            have hok' : ∀ e ∈ R ++ [stepF M m q d], rOK e := by
              intro e h
              rw [List.mem_append, List.mem_singleton] at h
              rcases h with h | rfl
              · exact hok e h
              · exact hst
            have hl : (R ++ [stepF M m q d]).length = R.length + 1 := by simp
            have el : iI ((R.length : Int) + 1) = iI ((R ++ [stepF M m q d]).length : Int) := by rw [hl]; rfl
            show ∃ sp : Sp, _
            rw [el]
            refine ⟨_, v_isApproved l, by decide, sp', ls', ln', f, s, t, ak', dy', br', ad', dp', lm', rs', w, R ++ [stepF M m q d], rfl, hRR', by omega, hok', rfl, ?_⟩
            rw [lC_snoc]
            refine And.intro (fun h3 => ?_) (fun h3 => ?_)
            · rw [zc_beq, decide_eq_false_iff_not] at h3
              rw [if_neg h3, List.append_cons] at he
              refine ⟨_, v_cellE l, by decide, f, s, t, rfl, M, 4, q, 0, _, _, _, rfl, rfl, rfl, rfl, hR, by omega, hq, by decide, ?_⟩
              refine ⟨_, v_lastCell l, by decide, sp', ls', ln', f, s, t, ak', dy', br', ad', dp', lm', rs', w, R ++ [stepF M m q d], rfl, hRR', by omega, 1, rfl, by omega, ?_⟩
              refine And.intro (zn_in (by omega) (by omega)) ?_
              show AW _ _ _ _ _ _ _ _ _ _ _ _ _ _
              rw [zn_cl (by omega), ht, lC_snoc, iI_add]
              have hc := hO.cell (d := 4) (c := 0) (by omega) hq (by decide)
              have h5 := hst.2.1
              have h6 := hst.2.2.1
              refine ih _ _ _ _ _ sp' ls' ln' ak' dy' br' ad' dp' lm' rs' (by omega) ⟨by omega, by omega⟩ ?_ ?_ rfl (by rw [← el, zn_i, iI_add]; rfl) hRR' hok' he
              · show 0 ≤ (stepF M m q d).2.1 + _; omega
              · show (stepF M m q d).2.1 + _ ≤ 9999; omega
            · rw [zc_beq, decide_eq_false_iff_not, Classical.not_not] at h3
              rw [if_pos h3] at he
              have hK' := hK sp' ls' ln' ak' dy' br' ad' dp' lm' rs'
              rw [← he] at hK'
              exact hP1 _ _ (hK' hRR')
  refine AW.go (bs := b_Route_follow) [18] 80 t_Route_follow ?_
  exact loop 12 [] o y _ _ sp ls ln ak dy br ad dp lm rs rfl ⟨o1, o2⟩ y0 y1 rfl rfl (fun i e h => by simp at h) (fun e h => by simp at h) rfl
def sp_climb : Sp := (33, 0, 0, pR, fun as σ K => ∃ (sp ls ln f s t : Nat → Int32) (M : Od) (m : Mt) (o y : Int) (w : Int32) (len ak dy br ad dp lm rs : Int32), as = [.ref 0, .ref 9] ∧ σ = wR sp ls ln f s t len ak dy br ad dp lm rs (iI (mP m)) (iI (mV m)) (iI (mK m)) (iI o) (iI y) w (iI (mA m)) (iI (mL m)) ∧ RS f s t M ∧ OKM M ∧ mOK m ∧ ir o ∧ 0 ≤ y ∧ y ≤ 9999 ∧
  ∀ sp' ls' ln' ak' dy' br' ad' dp' lm' rs', RR sp' ls' 10000 (routeF M m 10000 12 o y) → K none (some (wR sp' ls' ln' f s t (iI ((routeF M m 10000 12 o y).length : Int)) ak' dy' br' ad' dp' lm' rs' (iI (mP m)) (iI (mV m)) (iI (mK m)) (iI o) (iI y) (iI 10000) (iI (mA m)) (iI (mL m)))))
theorem v_climb (l : Launch) : z_V l 34 sp_climb := by
  refine z_V.ofP (by decide +kernel) ?_
  rintro as σ K Post ⟨sp, ls, ln, f, s, t, M, m, o, y, w, len, ak, dy, br, ad, dp, lm, rs, rfl, rfl, hR, hO, hm, ho, y0, y1, hK⟩ hP1 hP0
  refine AW.go (bs := b_Route_climb) [] 50 t_Route_climb ?_
  refine ⟨_, v_follow l, by decide, sp, ls, ln, f, s, t, M, m, o, y, 10000, len, ak, dy, br, ad, dp, lm, rs, rfl, rfl, hR, hO, hm, ho, y0, y1, ⟨by omega, by omega⟩, fun sp' ls' ln' ak' dy' br' ad' dp' lm' rs' h => ?_⟩
  exact hP1 _ _ (hK sp' ls' ln' ak' dy' br' ad' dp' lm' rs' h)
def sp_limitOfFirstStep : Sp := (32, 0, 0, pR, fun as σ K => ∃ (sp ls ln f s t : Nat → Int32) (M : Od) (m : Mt) (post : Nat) (d w : Int) (len ak dy br ad dp lm rs o y : Int32), as = [.ref 0, .ref 9, .int (iI post), .int (iI d)] ∧ σ = wR sp ls ln f s t len ak dy br ad dp lm rs (iI (mP m)) (iI (mV m)) (iI (mK m)) o y (iI w) (iI (mA m)) (iI (mL m)) ∧ RS f s t M ∧ OKM M ∧ mOK m ∧ post < M.1 4 ∧ 0 ≤ d ∧ d ≤ 999 ∧ ir w ∧
  ∀ sp' ls' ln' ak' dy' br' ad' dp' lm' rs' len', K (some (.int (iI (sC (stepF M m post d) w 3)))) (some (wR sp' ls' ln' f s t len' ak' dy' br' ad' dp' lm' rs' (iI (mP m)) (iI (mV m)) (iI (mK m)) o y (iI w) (iI (mA m)) (iI (mL m)))))
theorem v_limitOfFirstStep (l : Launch) : z_V l 35 sp_limitOfFirstStep := by
  refine z_V.ofP (by decide +kernel) ?_
  rintro as σ K Post ⟨sp, ls, ln, f, s, t, M, m, post, d, w, len, ak, dy, br, ad, dp, lm, rs, o, y, rfl, rfl, hR, hO, hm, hp, d0, d1, hw, hK⟩ hP1 hP0
  refine AW.go (bs := b_Route_limitOfFirstStep) [] 50 t_Route_limitOfFirstStep ?_
  refine ⟨_, v_takeStep l, by decide, sp, ls, ln, f, s, t, M, m, [], post, d, w, ak, dy, br, ad, dp, lm, rs, o, y, rfl, rfl, hR, hO, hm, hp, d0, d1, hw, by decide, fun i e h => by simp at h, fun e h => by simp at h, fun sp' ls' ln' ak' dy' br' ad' dp' lm' rs' h => ?_⟩
  refine ⟨_, v_rcell l, by decide, sp', ls', ln', f, s, t, ak', dy', br', ad', dp', lm', rs', w, [stepF M m post d], rfl, h, (by show 1 ≤ 12; omega), 0, 3, stepF M m post d, _, _, rfl, rfl, rfl, rfl, by omega, ?_⟩
  exact hP1 _ _ (hK sp' ls' ln' ak' dy' br' ad' dp' lm' rs' _)
