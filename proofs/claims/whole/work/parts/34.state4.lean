theorem z_V.mono {l : Launch} {j : Nat} {sp : Sp} (h : z_V l j sp) (tr : Tr) (hm : ∀ as σ K, tr as σ K → sp.2.2.2.2 as σ K) : z_V l j (sp.1, sp.2.1, sp.2.2.1, sp.2.2.2.1, tr) := fun as σ K ht => h as σ K (hm as σ K ht)
/-- the same with equations in place of forms -/
def sp_cellE : Sp := spS 0 (fun f s t as K => ∃ (M : Od) (d k c : Nat) (x y z : Int32), as = [.ref 0, .int x, .int y, .int z] ∧ x = iI d ∧ y = iI k ∧ z = iI c ∧ RS f s t M ∧ d < 6 ∧ k < M.1 d ∧ c < oW d ∧ K (some (.int (iI (M.2.1 d k c)))))
theorem v_cellE (l : Launch) : z_V l 52 sp_cellE := (v_cell l).mono _ (by
  rintro as σ K ⟨f, s, t, rfl, M, d, k, c, x, y, z, rfl, rfl, rfl, rfl, h⟩
  exact ⟨f, s, t, rfl, M, d, k, c, rfl, h⟩)
/-- up to nx nothing changes from a day on -/
def chg1 (M : Od) (day nx : Int) (d k : Nat) : Prop := ∀ d', day ≤ d' → d' < nx → cov M d k d' = cov M d k day
def chg (M : Od) (day nx : Int) : Prop := day < nx ∧ nx ≤ 1000 ∧ ∀ d k, d < 3 → k < M.1 d → chg1 M day nx d k
def sp_nextChange : Sp := spS 1 (fun f s t as K => ∃ (M : Od) (day : Int), as = [.ref 0, .int (iI day)] ∧ RS f s t M ∧ OKM M ∧ 0 ≤ day ∧ day ≤ 999 ∧ ∀ nx, chg M day nx → K (some (.int (iI nx))))
theorem min_iI {a b : Int} (ha : -2147483648 ≤ a) (ha2 : a ≤ 2147483647) (hb : -2147483648 ≤ b) (hb2 : b ≤ 2147483647) : (if iI b < iI a then iI b else iI a) = iI (min a b) := by
  by_cases h : b < a
  · rw [if_pos ((iI_lt hb hb2 ha ha2).mpr h)]; congr 1; omega
  · rw [if_neg (fun q => h ((iI_lt hb hb2 ha ha2).mp q))]; congr 1; omega
theorem max_iI {a b : Int} (ha : -2147483648 ≤ a) (ha2 : a ≤ 2147483647) (hb : -2147483648 ≤ b) (hb2 : b ≤ 2147483647) : (if iI a < iI b then iI b else iI a) = iI (max a b) := by
  by_cases h : a < b
  · rw [if_pos ((iI_lt ha ha2 hb hb2).mpr h)]; congr 1; omega
  · rw [if_neg (fun q => h ((iI_lt ha ha2 hb hb2).mp q))]; congr 1; omega
theorem v_nextChange (l : Launch) : z_V l 64 sp_nextChange := by
  refine z_V.of (by decide +kernel) ?_
  rintro as σ K ⟨f, s, t, rfl, M, day, rfl, hR, hO, y1, y2, hK⟩
  have mono : ∀ {nx nx' : Int} {d k : Nat}, nx' ≤ nx → chg1 M day nx d k → chg1 M day nx' d k := fun h1 h2 d' h3 h4 => h2 d' h3 (by omega)
  have outer : ∀ (n d : Nat) (nx : Int) (x y : Int32) (v4 v5 v6 : Option Value), d + n = 3 → x = iI nx → y = iI (d : Int) → day < nx → nx ≤ 1000 → (∀ d0 k0, d0 < d → k0 < M.1 d0 → chg1 M day nx d0 k0) → AW l 64 1 0 0 4 none (fun r σ' => (σ' = wS f s t ∧ K r none) ∨ K r (some σ')) 6 [some (.ref 0), some (.int (iI day)), some (.int x), some (.int y), v4, v5, v6] [] (wS f s t) 0 0 := by
    intro n
    induction n with
    | zero =>
      intro d nx x y v4 v5 v6 hd hx hy h1 h2 hh
      subst hx; subst hy
      refine AW.go (bs := b_State_nextChange) [6, 14] 80 t_State_nextChange ?_
      refine And.intro (fun h => ?_) (fun h => ?_)
      · exact Or.inl ⟨rfl, hK nx ⟨h1, h2, fun d0 k0 a b => hh d0 k0 (by omega) b⟩⟩
      · rw [zn_i, zc_gt (by omega) (by omega) (by omega) (by omega)] at h
        omega
    | succ n ih =>
      intro d nx x y v4 v5 v6 hd hx hy h1 h2 hh
      subst hx; subst hy
      have hs := hR.size d (by omega)
      have hm := hR.max40 d (by omega)
      have hf := oF_lt d (by omega)
      have inner : ∀ (q k : Nat) (nx : Int) (x y : Int32) (v5 v6 : Option Value), q = M.1 d - k → k ≤ M.1 d → x = iI nx → y = iI (k : Int) → day < nx → nx ≤ 1000 → (∀ d0 k0, d0 < d → k0 < M.1 d0 → chg1 M day nx d0 k0) → (∀ k0, k0 < k → chg1 M day nx d k0) → AW l 64 1 0 0 4 none (fun r σ' => (σ' = wS f s t ∧ K r none) ∨ K r (some σ')) 14 [some (.ref 0), some (.int (iI day)), some (.int x), some (.int (iI (d : Int))), some (.int y), v5, v6] [] (wS f s t) 0 0 := by
        intro q
        induction q using Nat.strongRecOn with
        | ind q ihq =>
          intro k nx x y v5 v6 hq hk0 hx hy h1 h2 hh hi
          subst hx; subst hy
          refine AW.go (bs := b_State_nextChange) [6, 14] 80 t_State_nextChange ?_
          refine And.intro (zN_in (by omega) (by omega)) ?_
          refine And.intro (fun h => ?_) (fun h => ?_)
          · rw [zN_cl (by omega), hs, zc_ge (by omega) (by omega) (by omega) (by omega)] at h
            exact ih (d + 1) nx _ _ _ _ _ (by omega) rfl (zn_inc d) h1 h2 (fun d0 k0 a b => by
              rcases Nat.lt_or_ge d0 d with e | e
              · exact hh d0 k0 e b
              · have : d0 = d := by omega
                subst this
                exact hi k0 (by omega))
          · rw [zN_cl (by omega), hs, zc_ge (by omega) (by omega) (by omega) (by omega)] at h
            have hk : k < M.1 d := by omega
            have c1 := hO.cell (by omega : d < 6) hk (by omega : oF d < oW d)
            have c2 := hO.cell (by omega : d < 6) hk hf
            refine And.intro (zN_in (by show d < 3; omega) (by omega)) ?_
            refine ⟨_, v_cellE l, by decide, f, s, t, rfl, M, d, k, oF d, _, _, _, rfl, rfl, rfl, z_tab _ (by omega), hR, by omega, hk, by omega, ?_⟩
            refine And.intro (zN_in (by show d < 3; omega) (by omega)) ?_
            refine ⟨_, v_cellE l, by decide, f, s, t, rfl, M, d, k, oF d + 1, _, _, _, rfl, rfl, rfl, by rw [z_tab _ (by omega)]; exact zn_inc (oF d), hR, by omega, hk, hf, ?_⟩
            have hcv : ∀ d', cov M d k d' = (decide (M.2.1 d k (oF d) ≤ d') && decide (d' ≤ M.2.1 d k (oF d + 1))) := fun _ => rfl
            have step : ∀ (nx' : Int) (x : Int32) (v5 v6 : Option Value), x = iI nx' → day < nx' → nx' ≤ nx → chg1 M day nx' d k → AW l 64 1 0 0 4 none (fun r σ' => (σ' = wS f s t ∧ K r none) ∨ K r (some σ')) 14 [some (.ref 0), some (.int (iI day)), some (.int x), some (.int (iI (d : Int))), some (.int (iI (k : Int) + z_nn 1 0)), v5, v6] [] (wS f s t) 0 0 := by
              intro nx' x v5 v6 hx g1 g2 g3
              refine ihq _ (by omega) (k + 1) nx' x _ v5 v6 rfl (by omega) hx (zn_inc k) g1 (by omega) (fun d0 k0 a b => mono g2 (hh d0 k0 a b)) (fun k0 a => ?_)
              rcases Nat.lt_or_ge k0 k with e | e
              · exact mono g2 (hi k0 e)
              · rw [show k0 = k by omega]; exact g3
            refine And.intro (fun h3 => ?_) (fun h3 => ?_)
            · rw [zc_le (by omega) (by omega) (by omega) (by omega)] at h3
              show _ ∧ _
              rw [zn_i, iI_add]
              refine And.intro (fun h4 => ?_) (fun h4 => ?_)
              · rw [zc_le (by omega) (by omega) (by omega) (by omega)] at h4
                refine step nx _ _ _ rfl h1 (Int.le_refl _) (fun d' g1 g2 => ?_)
                rw [hcv, hcv, Bool.eq_iff_iff]; simp only [Bool.and_eq_true, decide_eq_true_eq]; omega
              · rw [zc_le (by omega) (by omega) (by omega) (by omega)] at h4
                refine step (min nx (M.2.1 d k (oF d + 1) + 1)) _ _ _ (min_iI (by omega) (by omega) (by omega) (by omega)) (by omega) (by omega) (fun d' g1 g2 => ?_)
                rw [hcv, hcv, Bool.eq_iff_iff]; simp only [Bool.and_eq_true, decide_eq_true_eq]; omega
            · rw [zc_le (by omega) (by omega) (by omega) (by omega)] at h3
              refine step (min nx (M.2.1 d k (oF d))) _ _ _ (min_iI (by omega) (by omega) (by omega) (by omega)) (by omega) (by omega) (fun d' g1 g2 => ?_)
              rw [hcv, hcv, Bool.eq_iff_iff]; simp only [Bool.and_eq_true, decide_eq_true_eq]; omega
      refine AW.go (bs := b_State_nextChange) [6, 14] 80 t_State_nextChange ?_
      refine And.intro (fun h => ?_) (fun h => ?_)
      · rw [zn_i, zc_gt (by omega) (by omega) (by omega) (by omega)] at h
        omega
      · exact inner _ 0 nx _ _ _ _ rfl (by omega) rfl rfl h1 h2 hh (fun k0 a => by omega)
  refine AW.go (bs := b_State_nextChange) [6, 14] 80 t_State_nextChange ?_
  exact outer 3 0 1000 _ _ _ _ _ rfl rfl rfl (by omega) (by omega) (fun d0 k0 a => by omega)
/-- may k be joined with r, were that on a day -/
def cj (M : Od) (k r : Nat) (day : Int) : Bool := decide (M.2.1 5 k 0 = M.2.1 5 r 0) && (decide (M.2.1 5 k 2 = M.2.1 5 r 2) && (decide (M.2.1 5 k 3 = M.2.1 5 r 3) && (decide (M.2.1 5 k 6 = -2) || decide (day < M.2.1 5 k 6))))
def sp_canJoin : Sp := spS 1 (fun f s t as K => ∃ (M : Od) (k r : Nat) (day : Int), as = [.ref 0, .int (iI k), .int (iI r), .int (iI day)] ∧ RS f s t M ∧ OKM M ∧ k < M.1 5 ∧ r < M.1 5 ∧ ir day ∧ K (some (.int (bI (cj M k r day)))))
theorem v_canJoin (l : Launch) : z_V l 66 sp_canJoin := by
  refine z_V.of (by decide +kernel) ?_
  rintro as σ K ⟨f, s, t, rfl, M, k, r, day, rfl, hR, hO, hk, hr, ⟨d1, d2⟩, hK⟩
  have a0 := hO.cell (by omega : 5 < 6) hk (by decide : 0 < oW 5)
  have a2 := hO.cell (by omega : 5 < 6) hk (by decide : 2 < oW 5)
  have a3 := hO.cell (by omega : 5 < 6) hk (by decide : 3 < oW 5)
  have a6 := hO.cell (by omega : 5 < 6) hk (by decide : 6 < oW 5)
  have b0 := hO.cell (by omega : 5 < 6) hr (by decide : 0 < oW 5)
  have b2 := hO.cell (by omega : 5 < 6) hr (by decide : 2 < oW 5)
  have b3 := hO.cell (by omega : 5 < 6) hr (by decide : 3 < oW 5)
  have no : cj M k r day = false → (0 : Int32) = 0 ∨ (0 : Int32) = 1 → K (some (.int (iI 0))) none := by
    intro h _; rw [h] at hK; exact hK
  refine AW.go (bs := b_State_canJoin) [] 90 t_State_canJoin ?_
  refine ⟨_, v_cell l, by decide, f, s, t, rfl, M, 5, k, 6, rfl, hR, by omega, hk, by decide, ?_⟩
  refine ⟨_, v_cell l, by decide, f, s, t, rfl, M, 5, k, 0, rfl, hR, by omega, hk, by decide, ?_⟩
  refine ⟨_, v_cell l, by decide, f, s, t, rfl, M, 5, r, 0, rfl, hR, by omega, hr, by decide, ?_⟩
  refine And.intro (fun h => ?_) (fun h => ?_)
  · rw [zc_ne (by omega) (by omega) (by omega) (by omega)] at h
    refine And.intro (Or.inl rfl) (Or.inl ⟨rfl, no ?_ (Or.inl rfl)⟩)
    rw [cj, decide_eq_false (by omega), Bool.false_and]
  · rw [zc_ne (by omega) (by omega) (by omega) (by omega), Classical.not_not] at h
    refine ⟨_, v_cell l, by decide, f, s, t, rfl, M, 5, k, 2, rfl, hR, by omega, hk, by decide, ?_⟩
    refine ⟨_, v_cell l, by decide, f, s, t, rfl, M, 5, r, 2, rfl, hR, by omega, hr, by decide, ?_⟩
    refine And.intro (fun h2 => ?_) (fun h2 => ?_)
    · rw [zc_ne (by omega) (by omega) (by omega) (by omega)] at h2
      refine And.intro (Or.inl rfl) (Or.inl ⟨rfl, no ?_ (Or.inl rfl)⟩)
      rw [cj, decide_eq_true h, decide_eq_false (by omega), Bool.false_and, Bool.and_false]
    · rw [zc_ne (by omega) (by omega) (by omega) (by omega), Classical.not_not] at h2
      refine ⟨_, v_cell l, by decide, f, s, t, rfl, M, 5, k, 3, rfl, hR, by omega, hk, by decide, ?_⟩
      refine ⟨_, v_cell l, by decide, f, s, t, rfl, M, 5, r, 3, rfl, hR, by omega, hr, by decide, ?_⟩
      refine And.intro (fun h3 => ?_) (fun h3 => ?_)
      · rw [zc_ne (by omega) (by omega) (by omega) (by omega)] at h3
        refine And.intro (Or.inl rfl) (Or.inl ⟨rfl, no ?_ (Or.inl rfl)⟩)
        rw [cj, decide_eq_true h, decide_eq_true h2, decide_eq_false (by omega), Bool.false_and, Bool.and_false, Bool.and_false]
      · rw [zc_ne (by omega) (by omega) (by omega) (by omega), Classical.not_not] at h3
        refine And.intro (fun h4 => ?_) (fun h4 => ?_)
        · have h4 := (zc_eq (by omega) (by omega) (by omega) (by omega)).mp h4
          refine And.intro (Or.inr rfl) (Or.inl ⟨rfl, ?_⟩)
          rwa [cj, decide_eq_true h, decide_eq_true h2, decide_eq_true h3, decide_eq_true (by omega)] at hK
        · have h4 := mt (zc_eq (by omega) (by omega) (by omega) (by omega)).mpr h4
          refine And.intro (fun h5 => ?_) (fun h5 => ?_)
          · rw [zc_le (by omega) (by omega) d1 d2] at h5
            refine And.intro (Or.inl rfl) (Or.inl ⟨rfl, no ?_ (Or.inl rfl)⟩)
            rw [cj, decide_eq_false (show ¬ M.2.1 5 k 6 = -2 by omega), decide_eq_false (show ¬ day < M.2.1 5 k 6 by omega)]
            simp
          · rw [zc_le (by omega) (by omega) d1 d2] at h5
            refine And.intro (Or.inr rfl) (Or.inl ⟨rfl, ?_⟩)
            rwa [cj, decide_eq_true h, decide_eq_true h2, decide_eq_true h3, decide_eq_true (show day < M.2.1 5 k 6 by omega), Bool.or_true] at hK
/-- the amounts of a set -/
def amt (M : Od) (m : Nat) : Nat → Int
  | 0 => 0
  | n + 1 => if m.testBit n then amt M m n + M.2.1 5 n 4 else amt M m n
theorem amt_rng {M : Od} (hO : OKM M) (m : Nat) : ∀ {n : Nat}, n ≤ M.1 5 → 0 ≤ amt M m n ∧ amt M m n ≤ 9999 * n
  | 0, _ => ⟨Int.le_refl 0, Int.le_refl 0⟩
  | n + 1, h => by
    have ih := amt_rng hO m (n := n) (by omega)
    have c := hO.2.2.2.2.2.1 n (by omega)
    unfold amt
    split <;> push_cast <;> omega
def sp_amountOf : Sp := spS 1 (fun f s t as K => ∃ (M : Od) (m : Nat), as = [.ref 0, .long (lN m)] ∧ RS f s t M ∧ OKM M ∧ m < 2 ^ 62 ∧ K (some (.int (iI (amt M m (M.1 5))))))
theorem v_amountOf (l : Launch) : z_V l 67 sp_amountOf := by
  refine z_V.of (by decide +kernel) ?_
  rintro as σ K ⟨f, s, t, rfl, M, m, rfl, hR, hO, hm2, hK⟩
  have hs := hR.size 5 (by omega)
  have hm := hR.max40 5 (by omega)
  have loop : ∀ (n k : Nat) (x y : Int32), n = M.1 5 - k → k ≤ M.1 5 → x = iI (k : Int) → y = iI (amt M m k) → AW l 67 1 0 0 4 none (fun r σ' => (σ' = wS f s t ∧ K r none) ∨ K r (some σ')) 5 [some (.ref 0), some (.long (lN m)), none, some (.int y), some (.int x)] [] (wS f s t) 0 0 := by
    intro n
    induction n using Nat.strongRecOn with
    | ind n ih =>
      intro k x y hn h2 hx hy
      subst hx; subst hy
      refine AW.go (bs := b_State_amountOf) [5] 60 t_State_amountOf ?_
      refine And.intro (zn_in (by omega) (by omega)) ?_
      refine And.intro (fun h => ?_) (fun h => ?_)
      · rw [zn_cl (by omega), hs, zc_ge (by omega) (by omega) (by omega) (by omega)] at h
        refine Or.inl ⟨rfl, ?_⟩
        rw [show k = M.1 5 by omega]
        exact hK
      · rw [zn_cl (by omega), hs, zc_ge (by omega) (by omega) (by omega) (by omega)] at h
        have hk : k < M.1 5 := by omega
        show _ ∧ _
        rw [show (lN (1 : Fin 2).val) = lN 1 from rfl, show (lN (0 : Fin 2).val) = lN 0 from rfl, zl_bit hm2 (by omega)]
        refine And.intro (fun h3 => ?_) (fun h3 => ?_)
        · rw [zl_eq0] at h3
          refine ih _ (by omega) (k + 1) _ _ rfl (by omega) (zn_inc k) ?_
          rw [amt, h3]; rfl
        · rw [zl_eq0] at h3
          refine ⟨_, v_cell l, by decide, f, s, t, rfl, M, 5, k, 4, rfl, hR, by omega, hk, by decide, ?_⟩
          refine ih _ (by omega) (k + 1) _ _ rfl (by omega) (zn_inc k) ?_
          rw [amt, if_pos (by simpa using h3)]
          exact iI_add _ _
  refine AW.go (bs := b_State_amountOf) [5] 60 t_State_amountOf ?_
  exact loop _ 0 _ _ rfl (by omega) rfl rfl
