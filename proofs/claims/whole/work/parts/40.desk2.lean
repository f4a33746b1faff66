/-- what is asked about: person, vendor, kind; who is absent on all days, which AWAY is spared -/
abbrev Mt : Type := Int × Int × Int × Int × Int
def mP (m : Mt) : Int := m.1
def mV (m : Mt) : Int := m.2.1
def mK (m : Mt) : Int := m.2.2.1
def mA (m : Mt) : Int := m.2.2.2.1
def mL (m : Mt) : Int := m.2.2.2.2
def mOK (m : Mt) : Prop := ir (mP m) ∧ ir (mV m) ∧ 0 ≤ mK m ∧ mK m < 3 ∧ ir (mA m) ∧ ir (mL m)
def awB (M : Od) (m : Mt) (day : Int) : Nat := awayM M (mL m) day (M.1 1) ||| bitI (mA m)
def brB (M : Od) (m : Mt) (day : Int) : Nat := awB M m day ||| foeM M (mV m) (M.1 3)
theorem awB_lt {M : Od} (hO : OKM M) (m : Mt) (day : Int) : awB M m day < 65536 := Nat.or_lt_two_pow (n := 16) (awayM_lt hO (Nat.le_refl _)) (bitI_lt _)
theorem brB_lt {M : Od} (hO : OKM M) (m : Mt) (day : Int) : brB M m day < 65536 := Nat.or_lt_two_pow (n := 16) (awB_lt hO m day) (foeM_lt hO (Nat.le_refl _))
/-- the limit and the line of the one who decides at a post on a day -/
def decF (M : Od) (m : Mt) (post : Nat) (day : Int) : Option (Int × List Nat) :=
  if holder M post day = -1 then none else if holder M post day = mP m then none else (askF M (brB M m day) (mP m) day 16 (holder M post day).toNat (M.2.1 4 post (1 + (mK m).toNat)) 0).2
def reaF (M : Od) (m : Mt) (post : Nat) (day : Int) : Int :=
  if holder M post day = -1 then 2 else if holder M post day = mP m then 4 else if (awB M m day).testBit (holder M post day).toNat then 3 else 5
theorem holder_rng {M : Od} (hO : OKM M) (p day : Int) : holder M p day = -1 ∨ (0 ≤ holder M p day ∧ holder M p day < 16) := by
  unfold holder
  split
  · next k hk =>
    have := List.mem_range.mp (List.mem_of_find?_eq_some hk)
    have := hO.1 k this
    omega
  · exact Or.inl rfl
/-- Desk's world with the Matter -/
def wDM (ln f s t : Nat → Int32) (ak dy br ad dp lm rs : Int32) (p v k o y w a l : Int32) : List AE := [.inr (.inr (0, [.ref 2, .ref 1, .int ak, .int dy, .int br, .int ad, .int dp, .int lm, .int rs])), .inl (0, 16, ln), .inr (.inr (6, [.ref 3, .ref 4, .ref 5])), .inl (0, 648, f), .inl (0, 6, s), .inl (0, 3, t), .inr (.inr (2, [.int p, .int v, .int k, .int o, .int y, .int w, .int a, .int l]))]
def pDM : List (Nat × List Nat) := [(0, []), (0, [1]), (0, [0]), (0, [0, 0]), (0, [0, 1]), (0, [0, 2]), (1, [])]
def sp_ask : Sp := (30, 0, 0, pDM, fun as σ K => ∃ (ln f s t : Nat → Int32) (M : Od) (m : Mt) (post : Nat) (day : Int) (ak dy br ad dp lm rs o y w : Int32), as = [.ref 0, .ref 6, .int (iI post), .int (iI day)] ∧ σ = wDM ln f s t ak dy br ad dp lm rs (iI (mP m)) (iI (mV m)) (iI (mK m)) o y w (iI (mA m)) (iI (mL m)) ∧ RS f s t M ∧ OKM M ∧ mOK m ∧ post < M.1 4 ∧ ir day ∧
  ∀ ln' ak' dy' br' ad' dp' lm', aRes 0 ln ln' dp' lm' (decF M m post day) → K (some (.int (bI (decF M m post day).isSome))) (some (wDM ln' f s t ak' dy' br' ad' dp' lm' (iI (reaF M m post day)) (iI (mP m)) (iI (mV m)) (iI (mK m)) o y w (iI (mA m)) (iI (mL m)))))
theorem v_ask (l : Launch) : z_V l 1 sp_ask := by
  refine z_V.of (by decide +kernel) ?_
  rintro as σ K ⟨ln, f, s, t, M, m, post, day, ak, dy, br, ad, dp, lm, rs, o, y, w, rfl, rfl, hR, hO, ⟨m1, m2, m3, m4, m5, m6⟩, hp, hdy, hK⟩
  have hm := hR.max40 4 (by omega)
  have hh := holder_rng hO post day
  have haw := awB_lt hO m day
  refine AW.go (bs := b_Desk_ask) [78] 120 t_Desk_ask ?_
  refine ⟨_, v_holderAt l, by decide, f, s, t, rfl, M, post, day, rfl, hR, hO, ⟨by omega, by omega⟩, hdy, ?_⟩
  refine And.intro (fun h => ?_) (fun h => ?_)
  · have h := mt (zc_eq (a := holder M post day) (b := -1) (by omega) (by omega) (by omega) (by omega)).mpr (fun q => h q)
    have hpos : 0 ≤ holder M post day ∧ holder M post day < 16 := by omega
    obtain ⟨q, hq⟩ : ∃ q : Nat, holder M post day = (q : Int) := ⟨(holder M post day).toNat, by omega⟩
    have hq16 : q < 16 := by omega
    refine ⟨_, v_awayBits l, by decide, f, s, t, rfl, M, day, mL m, rfl, hR, hO, hdy, m6, ?_⟩
    refine ⟨_, v_bitOf l, by decide, rfl, mA m, rfl, m5, ?_⟩
    show _ ∧ _
    rw [zb_or]
    refine And.intro (fun h2 => ?_) (fun h2 => ?_)
    · rw [zc_ne (by omega) (by omega) m1.1 m1.2] at h2
      show ∃ sp : Sp, _
      rw [hq]
      have hdec : decF M m post day = (askF M (brB M m day) (mP m) day 16 q (M.2.1 4 post (1 + (mK m).toNat)) 0).2 := by
        unfold decF; rw [if_neg h, if_neg h2, hq, Int.toNat_natCast]
      have hrea : reaF M m post day = if (awB M m day).testBit q then 3 else 5 := by
        unfold reaF; rw [if_neg h, if_neg h2, hq, Int.toNat_natCast]
      have hc := hO.2.2.2.2.1 post hp
      have hcl := hc.2 (1 + (mK m).toNat) (by omega) (by omega)
      have tail : ∀ rs' : Int32, rs' = iI (reaF M m post day) → ∀ (st : List Value), st = [] → AW l 1 30 0 0 7 none (fun r σ' => (σ' = wDM ln f s t ak dy br ad dp lm rs (iI (mP m)) (iI (mV m)) (iI (mK m)) o y w (iI (mA m)) (iI (mL m)) ∧ K r none) ∨ K r (some σ')) 78 [some (.ref 0), some (.ref 6), some (.int (iI post)), some (.int (iI day)), some (.int (iI q)), some (.int (iI (awB M m day : Nat)))] [.int rs', .ref 0] (wDM ln f s t ak dy br ad dp lm rs (iI (mP m)) (iI (mV m)) (iI (mK m)) o y w (iI (mA m)) (iI (mL m))) 0 0 := by
        intro rs' hrs st _
        subst hrs
        refine AW.go (bs := b_Desk_ask) [] 120 t_Desk_ask ?_
        refine ⟨_, v_foeBits l, by decide, f, s, t, rfl, M, mV m, rfl, hR, hO, m2, ?_⟩
        show ∃ sp : Sp, _
        rw [zb_or]
        refine ⟨_, v_cellE l, by decide, f, s, t, rfl, M, 4, post, 1 + (mK m).toNat, _, _, _, rfl, rfl, rfl, by rw [zn_i, iI_add]; congr 1; omega, hR, by omega, hp, by show _ < 4; omega, ?_⟩
        refine ⟨_, v_askOne l 16, by decide, ln, f, s, t, M, mP m, day, brB M m day, 0, q, 0, _, dp, lm, _, rfl, rfl, hR, hO, by omega, hq16, hcl.1, hcl.2, by omega, brB_lt hO m day, m1, hdy, fun ln' dp' lm' hres => ?_⟩
        rw [hdec] at hK
        refine And.intro (bI_01 _) (Or.inr (hK ln' _ _ _ _ dp' lm' hres))
      refine ⟨_, v_isIn l, by decide, rfl, awB M m day, q, rfl, by omega, by omega, ?_⟩
      refine And.intro (fun h3 => ?_) (fun h3 => ?_)
      · rw [zc_beq] at h3
        exact tail _ (by rw [hrea, h3]; rfl) [] rfl
      · rw [zc_beq] at h3
        exact tail _ (by rw [hrea, if_pos (by simpa using h3)]; rfl) [] rfl
    · rw [zc_ne (by omega) (by omega) m1.1 m1.2, Classical.not_not] at h2
      have e1 : decF M m post day = none := by unfold decF; rw [if_neg h, if_pos h2]
      have e2 : reaF M m post day = 4 := by unfold reaF; rw [if_neg h, if_pos h2]
      rw [e1, e2] at hK
      exact And.intro (Or.inl rfl) (Or.inr (hK ln _ _ _ _ dp lm ⟨fun _ _ => rfl, fun x L e => by cases e⟩))
  · have h : holder M post day = -1 := (zc_eq (a := holder M post day) (b := -1) (by omega) (by omega) (by omega) (by omega)).mp (Classical.not_not.mp h)
    have e1 : decF M m post day = none := by unfold decF; rw [if_pos h]
    have e2 : reaF M m post day = 2 := by unfold reaF; rw [if_pos h]
    rw [e1, e2] at hK
    exact And.intro (Or.inl rfl) (Or.inr (hK ln _ _ _ _ dp lm ⟨fun _ _ => rfl, fun x L e => by cases e⟩))
def sp_decider : Sp := (0, 0, 0, pD, fun as σ K => ∃ (ln f s t : Nat → Int32) (ak dy br ad lm rs : Int32) (dp : Nat), as = [.ref 0] ∧ σ = wD ln f s t ak dy br ad (iI dp) lm rs ∧ dp < 16 ∧ K (some (.int (ln dp))) none)
theorem v_decider (l : Launch) : z_V l 4 sp_decider := by
  refine z_V.of (by decide +kernel) ?_
  rintro as σ K ⟨ln, f, s, t, ak, dy, br, ad, lm, rs, dp, rfl, rfl, hd, hK⟩
  refine AW.go (bs := b_Desk_decider) [] 40 t_Desk_decider ?_
  refine And.intro (zN_in hd (by omega)) (Or.inl ⟨rfl, ?_⟩)
  rw [zN_cl (by omega)]
  exact hK
def sp_inLine : Sp := (0, 0, 0, pD, fun as σ K => ∃ (ln f s t : Nat → Int32) (ak dy br ad dp lm rs : Int32) (i : Nat), as = [.ref 0, .int (iI i)] ∧ σ = wD ln f s t ak dy br ad dp lm rs ∧ i < 16 ∧ K (some (.int (ln i))) none)
theorem v_inLine (l : Launch) : z_V l 3 sp_inLine := by
  refine z_V.of (by decide +kernel) ?_
  rintro as σ K ⟨ln, f, s, t, ak, dy, br, ad, dp, lm, rs, i, rfl, rfl, hi, hK⟩
  refine AW.go (bs := b_Desk_inLine) [] 40 t_Desk_inLine ?_
  refine And.intro (fun h => ?_) (fun h => ?_)
  · rw [zc_lt0 (by omega) (by omega)] at h; omega
  · refine And.intro (fun h => ?_) (fun h => ?_)
    · rw [zn_i, zc_ge (by omega) (by omega) (by omega) (by omega)] at h; omega
    · refine And.intro (zN_in hi (by omega)) (Or.inl ⟨rfl, ?_⟩)
      rw [zN_cl (by omega)]
      exact hK
/-- Matter -/
def wM (p v k o y w a l : Int32) : List AE := [.inr (.inr (2, [.int p, .int v, .int k, .int o, .int y, .int w, .int a, .int l]))]
def sp_begin : Sp := (0, 0, 0, [(0, [])], fun as σ K => ∃ (p v k o y w a l x1 x2 x3 : Int32), as = [.ref 0, .int x1, .int x2, .int x3] ∧ σ = wM p v k o y w a l ∧ K none (some (wM x1 x2 x3 (iI 0) (iI 0) (iI 0) (iI (-1)) (iI (-1)))))
theorem v_begin (l : Launch) : z_V l 13 sp_begin := by
  refine z_V.of (by decide +kernel) ?_
  rintro as σ K ⟨p, v, k, o, y, w, a, l, x1, x2, x3, rfl, rfl, hK⟩
  refine AW.go (bs := b_Matter_begin) [] 60 t_Matter_begin ?_
  exact Or.inr hK
