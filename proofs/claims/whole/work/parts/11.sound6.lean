section ZC
variable {l : Launch} {j rk MC MS n0 : Nat} {X : Option (Nat × (Nat → Int32))} {Post : Option Value → List AE → Prop} {pc : Nat} {L : LC} {st : List Value} {σ : List AE} {ce sl : Nat}
theorem z_call_ex {t : Nat} {as rest : List Value} {K : List Value → List AE → Nat → Nat → Prop} (h : z_call l rk MC MS t L as rest σ ce sl K) :
    ∃ (sp : Sp) (ρ : List Nat) (σl : List AE), z_V l t sp ∧ sp.1 < rk ∧ ce + sp.2.1 ≤ MC ∧ sl + sp.2.2.1 ≤ MS ∧ z_cs rest ≤ 8 ∧ ρ.Nodup ∧ (∀ r ∈ ρ, r < σ.length) ∧ ρ.length < 1000 ∧ z_okA sp.2.1 L as rest σ = true ∧ σl.length = ρ.length ∧ (∀ (i r : Nat), ρ[i]? = some r → ∃ c, σ[r]? = some c ∧ σl[i]? = some (z_ce (z_iv ρ) c)) ∧
      sp.2.2.2.2 (as.map (z_cv (z_iv ρ))) σl (z_kk sp.2.1 sp.2.2.1 (z_N sp.2.1 σ.length) ρ rest σ ce sl K) := by
  obtain ⟨sp, hV, hrk, h⟩ := h
  split at h
  · next hb =>
    simp only [Bool.and_eq_true, Nat.ble_eq] at hb
    obtain ⟨ρ, h⟩ := z_rho_ex _ h
    split at h
    · next hc =>
      simp only [Bool.and_eq_true, Nat.blt_eq] at hc
      obtain ⟨σl, h1, h2, h3⟩ := z_lw_ex _ h
      rw [z_vsK_eq (z_ivK_eq ρ)] at h1
      obtain ⟨o1, o2⟩ := z_okr_spec hc.1
      exact ⟨sp, ρ, σl, hV, hrk, hb.1, hb.2.1, hb.2.2, o1, o2, hc.2.1, hc.2.2, h2, h3, h1⟩
    · exact h.elim
  · exact h.elim
theorem z_push_map {fw ad' adc : Nat → Nat} {r : Option Value} {rest rest' : List Value} (hr : ∀ v, r = some v → z_cv ad' (z_cv fw v) = z_cv adc v) (hrest : rest.map (z_cv ad') = rest') : (z_push fw r rest).map (z_cv ad') = (r.map (z_cv adc)).toList ++ rest' := by
  cases r with
  | none => simpa [z_push] using hrest
  | some v => simp only [z_push, List.map_cons, hr v rfl, hrest]; rfl
theorem z_core {p : Program} {e : Env} {s : State} {m : MethodId} {args : Array Value} {below : List Frame} {meth : Method} {c : Code} {D : va_G} {cy : Nat → ClassId} {ad0 : Nat → Nat} {A : Nat → Prop} (C : z_Cx l j X p s m args meth c D cy ad0 A)
    {ad : Nat → Nat} {ls : Array Slot} {H : Heap} {locs : List Loc} (hag : z_ag n0 ad ad0) (hn : n0 ≤ σ.length) (hle : σ.length ≤ n0 + ce) (hlt : σ.length < 1000) (hl : lv_has ls (k_nL j) (z_kn ad 0 L)) (hP : va_P D k_cl (z_wc cy ad 0 σ) H) (hD : va_D A (z_wc cy ad 0 σ)) (hS : va_S A s.heap H locs)
    {t : Nat} {as rest st0 : List Value} {K : List Value → List AE → Nat → Nat → Prop} (h : z_call l rk MC MS t L as rest σ ce sl K) (hK : ∀ st σ ce sl, K st σ ce sl → AW l j rk MC MS n0 X Post (pc + 3) L st σ ce sl)
    (run : ∀ {rk' mc ms : Nat} {Pc : Array Value → State → Prop} {Qc : Array Value → State → Outcome → State → Prop} {free : Addr → Prop}, Met l (k_y t) (z_ws t) (z_rm rk' mc ms) Pc Qc mc ms free → rk' < rk → ce + mc ≤ MC → sl + ms ≤ MS → z_cs rest ≤ 8 → FrameBlind Pc → (∀ U : State, U.heap = H → s.WarmedH U.vm → Pc (as.map (z_cv ad)).toArray U) →
      va_Run p l e (z_rm rk MC MS) s m args below meth c H locs ce sl mc ms (F0 m pc ls st0) (rest.map (z_cv ad)) (Qc (as.map (z_cv ad)).toArray) free) :
    W p l e (z_rm rk MC MS) s m args below meth c H locs ce sl (MQ below (z_Q D cy ad0 A n0 MC Post) args s MC MS A) (F0 m pc ls st0) := by
  obtain ⟨⟨srk, mc, ms, ps, tr⟩, ρ, σl, hV, hrk, hmc, hms, hcs, hnd, hrlt, hrl, hokA, hll, hlw, htr⟩ := z_call_ex h
  simp only at hV hrk hmc hms hokA htr
  obtain ⟨hx, hb, hml, hr, hlo, hin, hown, hts, hKK, hE, hA⟩ := id C
  -- the bound for places that are free
  obtain ⟨N, eN⟩ : ∃ N, N = z_N mc σ.length := ⟨_, rfl⟩
  rw [← eN] at htr
  have hN : N = 1000 ∨ (N = σ.length ∧ 0 < mc ∧ z_okW σ.length L (as ++ rest) σ = true ∧ σ.length + mc ≤ 900) := by
    cases mc with
    | zero => exact Or.inl eN
    | succ n =>
      simp only [z_okA, Bool.and_eq_true, Nat.ble_eq] at hokA
      exact Or.inr ⟨eN, by omega, hokA.1, hokA.2⟩
  have hN0 : mc = 0 → N = 1000 := by intro e0; subst e0; exact eN
  have hokV : ∀ v ∈ as, ∀ g, v = .ref g → N = 1000 ∨ z_ok1 N g = true := by
    intro v hv g eg
    rcases hN with e1 | ⟨e1, -, o, -⟩
    · exact Or.inl e1
    · right
      simp only [z_okW, Bool.and_eq_true] at o
      have := List.all_eq_true.mp o.2.1 v (List.mem_append_left _ hv)
      rw [eg] at this
      rw [e1]
      exact this
  have hokC : ∀ c ∈ σ, N = 1000 ∨ z_okC N c = true := by
    intro c hc
    rcases hN with e1 | ⟨e1, -, o, -⟩
    · exact Or.inl e1
    · right
      simp only [z_okW, Bool.and_eq_true] at o
      rw [e1]
      exact List.all_eq_true.mp o.2.2 c hc
  have hinv : ∀ g, (N = 1000 ∨ z_ok1 N g = true) → z_fw ρ N (z_iv ρ g) = g := fun g hg => z_fwiv hrl (fun _ _ h => h) hg
  -- the callee's numbering
  obtain ⟨adc, eadc⟩ : ∃ adc : Nat → Nat, adc = fun i => ad (z_fw ρ N i) := ⟨_, rfl⟩
  have hcons : ∀ c ∈ σ, z_con cy adc (z_ce (z_iv ρ) c) = z_con cy ad c := by
    intro c hc
    rw [z_con_ce]
    rcases hokC c hc with e1 | o
    · congr 1
      funext g
      rw [eadc]
      exact congrArg ad (hinv g (Or.inl e1))
    · exact z_con_congr (N := N) (fun g hg => by rw [eadc]; exact congrArg ad (hinv g (Or.inr hg))) o
  have hargs : (as.map (z_cv (z_iv ρ))).map (z_cv adc) = as.map (z_cv ad) := by
    rw [List.map_map]
    refine List.map_congr_left (fun v hv => ?_)
    show z_cv adc (z_cv (z_iv ρ) v) = z_cv ad v
    rw [z_cv_comp]
    cases v with
    | ref g => simp only [z_cv, eadc]; rw [hinv g (hokV _ hv g rfl)]
    | _ => rfl
  have hadc : ∀ (i r : Nat), ρ[i]? = some r → adc i = ad r := by
    intro i r hi
    have hi1 := (List.getElem?_eq_some_iff.mp hi).1
    rw [eadc]
    simp only [z_fw]
    rw [z_ble_f (by omega : i < 1000)]
    simp only [z_nth_eq, hi]
  have hpick : ρ.map (fun i => (z_wc cy ad 0 σ)[i]?) = (z_wc cy adc 0 σl).map some := by
    apply List.ext_getElem?
    intro i
    rw [List.getElem?_map, List.getElem?_map, z_wc_at]
    cases hi : ρ[i]? with
    | none =>
      have : σl[i]? = none := by
        rw [List.getElem?_eq_none_iff] at hi ⊢
        omega
      rw [this]; rfl
    | some r =>
      obtain ⟨c, h1, h2⟩ := hlw i r hi
      rw [h2]
      simp only [Option.map_some, Nat.zero_add]
      rw [z_wc0 h1, hcons c (List.mem_of_getElem? h1), hadc i r hi]
  have hPc : va_P D k_cl (z_wc cy adc 0 σl) H := by
    intro k q hq
    have h1 : (ρ.map (fun i => (z_wc cy ad 0 σ)[i]?))[k]? = some (some q) := by rw [hpick, List.getElem?_map, hq]; rfl
    rw [List.getElem?_map] at h1
    cases hi : ρ[k]? with
    | none => rw [hi] at h1; cases h1
    | some i => rw [hi] at h1; exact hP i q (Option.some.inj h1)
  have hF := va_free (wc := z_wc cy adc 0 σl) hD hS hA ρ hpick
  have hDc : va_D A (z_wc cy adc 0 σl) := by
    have key : ∀ (k : Nat) (q : Nat × va_E), (z_wc cy adc 0 σl)[k]? = some q → ∃ i, ρ[k]? = some i ∧ (z_wc cy ad 0 σ)[i]? = some q := by
      intro k q hk
      have h1 : (ρ.map (fun i => (z_wc cy ad 0 σ)[i]?))[k]? = some (some q) := by rw [hpick, List.getElem?_map, hk]; rfl
      rw [List.getElem?_map] at h1
      cases hi : ρ[k]? with
      | none => rw [hi] at h1; cases h1
      | some i => rw [hi] at h1; exact ⟨i, rfl, Option.some.inj h1⟩
    refine ⟨fun a b x y ha hb hxy => ?_, fun k q hk => ?_⟩
    · obtain ⟨i, h1, h2⟩ := key a x ha
      obtain ⟨i', h3, h4⟩ := key b y hb
      have e := hD.1 i i' x y h2 h4 hxy
      subst e
      obtain ⟨l1, e1⟩ := List.getElem?_eq_some_iff.mp h1
      exact (List.getElem?_inj l1 hnd).mp (h1.trans h3.symm)
    · obtain ⟨i, -, h2⟩ := key k q hk
      exact hD.2 i q h2
  -- its contract
  have hM := hV (as.map (z_cv (z_iv ρ))) σl _ htr D cy adc H.size
  simp only at hM
  rw [hargs] at hM
  have hEc : z_Amb none adc (va_A (z_wc cy adc 0 σl) H.size) s H := by
    have h1 := ((hE.kept hS.1 hS.2.1).forget.narrow hF)
    refine h1.renum (fun k g1 g2 => ?_)
    rw [eadc]
    simp only [z_fw]
    rw [z_ble_t g1, z_ble_f g2]
    exact hag k (Or.inr g1)
  have hrun := run hM hrk hmc hms hcs (fun a U g mk q => by
      obtain ⟨q0, q1, q2, q3, q4, q5, q6⟩ := q
      exact ⟨q0, q1, q2, q3, va_K.moved (u := U) (U := U.calling g mk a) (Vm.Alike.refl U.vm) q4, q5, q6.blind rfl⟩)
    (fun U hU hW => ⟨rfl, by rw [hU], by omega, by rw [hU]; exact hPc, va_K.moved hW.alike hKK, hDc.weaken (fun _ _ _ _ => trivial), by rw [hU]; exact hEc.warm hW⟩)
  intro T hT Y
  obtain ⟨v, st₀, tt, T', L', e0, Y', hL, e1, e2, ⟨⟨r, σl', adc', hpost, hokR, hn1, hn2, hn3, hagc, ho, hP1, hD1⟩, hF1⟩, goes⟩ := hrun T hT Y
  have ev : v = r.map (z_cv adc') := by injection ho
  subst ev
  have hFz : H.size ≤ tt.heap.size := by rw [← e0]; exact hF1.1
  have hFk : ∀ q : Nat, q < H.size → ¬ va_A (z_wc cy adc 0 σl) H.size q → tt.heap[q]? = H[q]? := fun q h1 h2 => by
    have := hF1.2 q (by rw [e0]; exact h1) h2
    rw [e0] at this
    exact this
  have hS' : va_S A s.heap T'.heap (locs ++ L') := by
    rw [e1]
    refine ⟨Nat.le_trans hS.1 hFz, fun q h1 h2 => ?_, fun q hq => ?_⟩
    · rw [hFk q (Nat.lt_of_lt_of_le h1 hS.1) (fun z => h2 (hF q z))]
      exact hS.2.1 q h1 h2
    · rcases List.mem_append.mp hq with g | g
      · exact hS.2.2 q g
      · exact hF _ (hL q g)
  -- a cell of the caller's that isn't the callee's stays
  have hstay : ∀ (k : Nat) (q : Nat × va_E), k ∉ ρ → (z_wc cy ad 0 σ)[k]? = some q → va_at D k_cl q T'.heap := by
    intro k q hk hq
    have hq1 := hP k q hq
    refine hq1.kept ?_
    rw [e1]
    refine hFk q.1 hq1.lt (fun z => ?_)
    rcases z with ⟨k2, ee, hz⟩ | hz
    · have h1 : (ρ.map (fun i => (z_wc cy ad 0 σ)[i]?))[k2]? = some (some (q.1, ee)) := by rw [hpick, List.getElem?_map, hz]; rfl
      rw [List.getElem?_map] at h1
      cases hi : ρ[k2]? with
      | none => rw [hi] at h1; cases h1
      | some i =>
        rw [hi] at h1
        have := hD.1 k i q (q.1, ee) hq (Option.some.inj h1) rfl
        exact hk (by rw [this]; exact List.mem_of_getElem? hi)
    · have := hq1.lt; omega
  simp only [z_okR, Bool.and_eq_true] at hokR
  rw [hll] at hn1 hn2 hagc
  have finish : ∀ {t2 : State} {fr : JFrame}, F0 m (pc + 3) ls ((r.map (z_cv adc')).toList ++ rest.map (z_cv ad)) = fr → (∃ t2, Steps p.tables e below (T'.setTop fr) t2 ∧ MQ below (z_Q D cy ad0 A n0 MC Post) args s MC MS A t2) → ∃ t2, Steps p.tables e below (T.setTop (F0 m pc ls st0)) t2 ∧ MQ below (z_Q D cy ad0 A n0 MC Post) args s MC MS A t2 := by
    intro _ fr hfr hh
    obtain ⟨t2, a1, b1⟩ := hh
    subst hfr
    exact ⟨t2, goes t2 a1, b1⟩
  rcases hpost with ⟨rfl, hk⟩ | hk
  · -- the world is as it was
    simp only [z_kk, z_pushK_eq (z_fwK_eq ρ N)] at hk
    have g := hK _ _ _ _ hk p e s m args below meth c D cy ad0 A C ad ls T'.heap (locs ++ L') hag hn (by omega) hlt hl
    have hPn : va_P D k_cl (z_wc cy ad 0 σ) T'.heap := by
      intro k q hq
      by_cases hkr : k ∈ ρ
      · obtain ⟨i, hi⟩ := List.getElem?_of_mem hkr
        have h1 : (ρ.map (fun i => (z_wc cy ad 0 σ)[i]?))[i]? = some (some q) := by rw [List.getElem?_map, hi]; simp [hq]
        rw [hpick, List.getElem?_map] at h1
        have h2 : (z_wc cy adc' 0 σl')[i]? = some q := by
          have e3 : z_wc cy adc' 0 σl' = z_wc cy adc 0 σl' := by
            refine z_wc_congr (fun x hx => hagc _ (Or.inl (by omega))) (fun c hc => ?_)
            exact z_con_congr (N := σl'.length) (fun x hx => by
              rcases z_ok1_lt hx with g1 | g1
              · exact hagc x (Or.inl (by omega))
              · exact hagc x (Or.inr g1)) (List.all_eq_true.mp hokR.2 c hc)
          rw [e3]
          cases hz : (z_wc cy adc 0 σl')[i]? with
          | none => rw [hz] at h1; cases h1
          | some z => rw [hz] at h1; exact congrArg some (Option.some.inj (Option.some.inj h1))
        rw [e1]
        exact hP1 i q h2
      · exact hstay k q hkr hq
    have g2 := g hPn hD hS'
    refine finish (t2 := T) ?_ (g2 T' rfl Y')
    refine congrArg (F0 m (pc + 3) ls) (Eq.symm ?_)
    refine z_push_map (fun v hv => ?_) rfl
    rw [z_cv_comp]
    subst hv
    have hvv : z_okV σl'.length v = true := hokR.1
    exact z_cv_congr (N := σl'.length) (fun x hx => by
      show ad (z_fw ρ N x) = adc' x
      rcases z_ok1_lt hx with g1 | g1
      · rw [hagc x (Or.inl (by omega)), eadc]
      · rw [hagc x (Or.inr g1), eadc]) hvv
  · obtain ⟨fw, efw⟩ : ∃ fw, fw = z_fw (ρ ++ List.range' σ.length (σl'.length - ρ.length)) N := ⟨_, rfl⟩
    have hk : K (z_push fw r rest) (z_wb fw ρ σ σl') (ce + mc) (sl + ms) := by
      cases mc with
      | zero =>
        have e3 : σl'.length = ρ.length := by omega
        have e4 : fw = z_fw ρ N := by rw [efw, e3, Nat.sub_self]; simp
        simp only [z_kk, z_pushK_eq (z_fwK_eq ρ N), z_wbK_eq (z_fwK_eq ρ N)] at hk
        rw [e4]
        exact hk
      | succ n =>
        simp only [z_kk, z_pushK_eq (z_fwK_eq _ N), z_wbK_eq (z_fwK_eq _ N)] at hk
        rw [efw]
        exact hk
    have hfw1 : ∀ (i r : Nat), ρ[i]? = some r → fw i = r := by
      intro i r hi
      have hi1 := (List.getElem?_eq_some_iff.mp hi).1
      rw [efw]
      simp only [z_fw]
      rw [z_ble_f (by omega : i < 1000)]
      simp only [z_nth_eq]
      rw [List.getElem?_append_left hi1, hi]
    have hfw2 : ∀ i, ρ.length ≤ i → i < σl'.length → fw i = σ.length + (i - ρ.length) := by
      intro i h1 h2
      rw [efw]
      simp only [z_fw]
      rw [z_ble_f (by omega : i < 1000)]
      simp only [z_nth_eq]
      rw [List.getElem?_append_right h1, List.getElem?_range' (by omega)]
      simp
    have hfw3 : ∀ i, 1000 ≤ i → fw i = z_fw ρ N i := by
      intro i h1
      rw [efw]
      simp only [z_fw]
      rw [z_ble_t h1]
    obtain ⟨ads, p1, p2, p3, p4, p5, p6⟩ : ∃ ads : Nat → Nat, (∀ k, (k < σ.length ∨ 1000 ≤ k) → ads k = ad k) ∧ (∀ i, (i < σl'.length ∨ 1000 ≤ i) → ads (fw i) = adc' i) ∧ (∀ c ∈ σ, z_con cy ads c = z_con cy ad c) ∧ z_kn ads 0 L = z_kn ad 0 L ∧ rest.map (z_cv ads) = rest.map (z_cv ad) ∧ σ.length + (σl'.length - ρ.length) < 1000 := by
      by_cases hm : mc = 0
      · have e3 : σl'.length = ρ.length := by omega
        refine ⟨ad, fun _ _ => rfl, fun i hi => ?_, fun _ _ => rfl, rfl, rfl, by omega⟩
        rw [hagc i (by omega), eadc]
        rcases hi with hi | hi
        · obtain ⟨r, hr⟩ : ∃ r, ρ[i]? = some r := ⟨_, List.getElem?_eq_getElem (by omega)⟩
          rw [hfw1 i r hr]
          have := hadc i r hr
          rw [eadc] at this
          exact this.symm
        · rw [hfw3 i hi]
      · rcases hN with e1 | ⟨e1, -, o, o9⟩
        · cases mc with
          | zero => exact absurd rfl hm
          | succ n => simp only [z_N] at eN; omega
        · simp only [z_okW, Bool.and_eq_true] at o
          have q1 : ∀ k, z_ok1 σ.length k = true → (fun k => if k < σ.length ∨ 1000 ≤ k then ad k else adc' (ρ.length + (k - σ.length))) k = ad k := by
            intro k hk
            show (if k < σ.length ∨ 1000 ≤ k then ad k else _) = ad k
            rw [if_pos (z_ok1_lt hk)]
          refine ⟨fun k => if k < σ.length ∨ 1000 ≤ k then ad k else adc' (ρ.length + (k - σ.length)), fun k hk => by show (if k < σ.length ∨ 1000 ≤ k then ad k else _) = ad k; rw [if_pos hk], fun i hi => ?_, fun c hc => z_con_congr q1 (List.all_eq_true.mp o.2.2 c hc), z_kn_congr q1 L 0 o.1, List.map_congr_left (fun v hv => z_cv_congr q1 (List.all_eq_true.mp o.2.1 v (List.mem_append_right _ hv))), by omega⟩
          show (if fw i < σ.length ∨ 1000 ≤ fw i then ad (fw i) else _) = adc' i
          by_cases h1 : i < ρ.length
          · obtain ⟨r, hr⟩ : ∃ r, ρ[i]? = some r := ⟨_, List.getElem?_eq_getElem h1⟩
            rw [hfw1 i r hr, if_pos (Or.inl (hrlt r (List.mem_of_getElem? hr))), hagc i (Or.inl h1)]
            exact (hadc i r hr).symm
          · by_cases h2 : i < σl'.length
            · rw [hfw2 i (by omega) h2, if_neg (by omega)]
              congr 1
              omega
            · have h3 : 1000 ≤ i := by omega
              rw [hfw3 i h3, hagc i (Or.inr h3), eadc]
              refine if_pos ?_
              simp only [z_fw]
              rw [z_ble_t h3]
              simp only
              cases hc : Nat.ble 10000 i with
              | false => exact Or.inr h3
              | true =>
                simp only
                cases hcc : Nat.ble N (i - 10000) && Nat.blt (i - 10000) 1000 with
                | true => simp only; omega
                | false =>
                  simp only
                  by_cases g1 : i - 10000 < σ.length
                  · exact Or.inl g1
                  · by_cases g2 : 1000 ≤ i - 10000
                    · exact Or.inr g2
                    · rw [z_ble_t (by omega : N ≤ i - 10000)] at hcc
                      have : Nat.blt (i - 10000) 1000 = true := z_ble_t (by omega)
                      rw [this] at hcc
                      cases hcc
    obtain ⟨w1, w2, w3, w4⟩ := z_wb_spec fw ρ σ σl' hnd hrlt hn1
    have hconl : ∀ (i : Nat) (c : AE), σl'[i]? = some c → z_con cy ads (z_ce fw c) = z_con cy adc' c := by
      intro i c hc
      rw [z_con_ce]
      exact z_con_congr (N := σl'.length) (fun x hx => p2 x (z_ok1_lt hx)) (List.all_eq_true.mp hokR.2 c (List.mem_of_getElem? hc))
    have hcls : ∀ (k : Nat) (c : AE), (z_wb fw ρ σ σl')[k]? = some c → (∃ (i : Nat) (c' : AE), σl'[i]? = some c' ∧ fw i = k ∧ ads k = adc' i ∧ z_con cy ads c = z_con cy adc' c') ∨ (k ∉ ρ ∧ σ[k]? = some c ∧ ads k = ad k ∧ z_con cy ads c = z_con cy ad c) := by
      intro k c hk
      have hk1 := (List.getElem?_eq_some_iff.mp hk).1
      by_cases h1 : k < σ.length
      · by_cases h2 : k ∈ ρ
        · obtain ⟨i, hi⟩ := List.getElem?_of_mem h2
          have hi1 := (List.getElem?_eq_some_iff.mp hi).1
          obtain ⟨c', hc'⟩ : ∃ c', σl'[i]? = some c' := ⟨_, List.getElem?_eq_getElem (by omega)⟩
          have e3 := w2 i k c' hi hc'
          rw [hk] at e3
          cases e3
          have e4 := hfw1 i k hi
          refine Or.inl ⟨i, c', hc', e4, ?_, hconl i c' hc'⟩
          have := p2 i (Or.inl (by omega))
          rw [e4] at this
          exact this
        · have e3 := w3 k h2 h1
          rw [hk] at e3
          exact Or.inr ⟨h2, e3.symm, p1 k (Or.inl h1), p3 c (List.mem_of_getElem? e3.symm)⟩
      · have hi1 : ρ.length + (k - σ.length) < σl'.length := by omega
        obtain ⟨c', hc'⟩ : ∃ c', σl'[ρ.length + (k - σ.length)]? = some c' := ⟨_, List.getElem?_eq_getElem hi1⟩
        have e3 := w4 _ c' (by omega) hc'
        rw [show σ.length + (ρ.length + (k - σ.length) - ρ.length) = k by omega, hk] at e3
        cases e3
        have e4 := hfw2 _ (by omega) hi1
        rw [show σ.length + (ρ.length + (k - σ.length) - ρ.length) = k by omega] at e4
        refine Or.inl ⟨_, c', hc', e4, ?_, hconl _ c' hc'⟩
        have := p2 _ (Or.inl hi1)
        rw [e4] at this
        exact this
    have hcell : ∀ (k : Nat) (q : Nat × va_E), (z_wc cy ads 0 (z_wb fw ρ σ σl'))[k]? = some q → (∃ i, fw i = k ∧ (z_wc cy adc' 0 σl')[i]? = some q) ∨ (k ∉ ρ ∧ (z_wc cy ad 0 σ)[k]? = some q) := by
      intro k q hq
      rw [z_wc_at] at hq
      cases hk : (z_wb fw ρ σ σl')[k]? with
      | none => rw [hk] at hq; cases hq
      | some c =>
        rw [hk] at hq
        simp only [Option.map_some, Nat.zero_add, Option.some.injEq] at hq
        subst hq
        rcases hcls k c hk with ⟨i, c', g1, g2, g3, g4⟩ | ⟨g1, g2, g3, g4⟩
        · exact Or.inl ⟨i, g2, by rw [z_wc0 g1, g3, g4]⟩
        · exact Or.inr ⟨g1, by rw [z_wc0 g2, g3, g4]⟩
    have hPn : va_P D k_cl (z_wc cy ads 0 (z_wb fw ρ σ σl')) T'.heap := by
      intro k q hq
      rcases hcell k q hq with ⟨i, -, g2⟩ | ⟨g1, g2⟩
      · rw [e1]; exact hP1 i q g2
      · exact hstay k q g1 g2
    have hmix : ∀ (k : Nat) (i : Nat) (q q' : Nat × va_E), k ∉ ρ → (z_wc cy ad 0 σ)[k]? = some q → (z_wc cy adc' 0 σl')[i]? = some q' → q.1 ≠ q'.1 := by
      intro k i q q' hk hq hq' ee
      have g1 := hD1.2 i q' hq'
      rw [← ee] at g1
      have hq1 := (hP k q hq).lt
      rcases g1 with ⟨k2, e3, hz⟩ | hz
      · have h1 : (ρ.map (fun i => (z_wc cy ad 0 σ)[i]?))[k2]? = some (some (q.1, e3)) := by rw [hpick, List.getElem?_map, hz]; rfl
        rw [List.getElem?_map] at h1
        cases hi : ρ[k2]? with
        | none => rw [hi] at h1; cases h1
        | some i2 =>
          rw [hi] at h1
          have := hD.1 k i2 q (q.1, e3) hq (Option.some.inj h1) rfl
          exact hk (by rw [this]; exact List.mem_of_getElem? hi)
      · omega
    have hDn : va_D A (z_wc cy ads 0 (z_wb fw ρ σ σl')) := by
      refine ⟨fun a b x y ha hb hxy => ?_, fun k q hq => ?_⟩
      · rcases hcell a x ha with ⟨i, g1, g2⟩ | ⟨g1, g2⟩ <;> rcases hcell b y hb with ⟨i', g3, g4⟩ | ⟨g3, g4⟩
        · have := hD1.1 i i' x y g2 g4 hxy
          rw [← g1, ← g3, this]
        · exact absurd hxy.symm (hmix b i y x g3 g4 g2)
        · exact absurd hxy (hmix a i' x y g1 g2 g4)
        · exact hD.1 a b x y g2 g4 hxy
      · rcases hcell k q hq with ⟨i, -, g2⟩ | ⟨-, g2⟩
        · exact hF _ (hD1.2 i q g2)
        · exact hD.2 k q g2
    have g := hK _ _ _ _ hk p e s m args below meth c D cy ad0 A C ads ls T'.heap (locs ++ L') (fun k hk => by rw [p1 k (by omega)]; exact hag k hk) (by rw [w1]; omega) (by rw [w1]; omega) (by rw [w1]; exact p6) (by rw [p4]; exact hl) hPn hDn hS'
    refine finish (t2 := T) ?_ (g T' rfl Y')
    refine congrArg (F0 m (pc + 3) ls) (Eq.symm ?_)
    refine z_push_map (fun v hv => ?_) p5
    rw [z_cv_comp]
    subst hv
    have hvv : z_okV σl'.length v = true := hokR.1
    exact z_cv_congr (N := σl'.length) (fun x hx => p2 x (z_ok1_lt hx)) hvv
end ZC
