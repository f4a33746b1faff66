/-! who decides: asked one by one -/
def tk (M : Od) (k : Nat) : Nat := (M.2.1 2 k 1).toNat
theorem tk_un (M : Od) (k : Nat) : tk M k = (M.2.1 2 k 1).toNat := rfl
def askL (M : Od) (day : Int) (rec : Nat → Int → Nat → Nat × Option (Int × List Nat)) (p : Nat) (w : Int) : Nat → Nat → Nat → Nat × Option (Int × List Nat)
  | 0, _, A => (A, none)
  | q + 1, k, A => if M.2.1 2 k 0 = (p : Int) ∧ cov M 2 k day = true ∧ A.testBit (tk M k) = false then
      (match rec (tk M k) (min w (M.2.1 2 k 4)) A with
        | (A', some (x, L)) => (A', some (x, p :: L))
        | (A', none) => askL M day rec p w q (k + 1) A')
    else askL M day rec p w q (k + 1) A
/-- the asked ones behind it; the limit and the line of the one who decides -/
def askF (M : Od) (bar : Nat) (ak day : Int) : Nat → Nat → Int → Nat → Nat × Option (Int × List Nat)
  | 0, _, _, A => (A, none)
  | n + 1, p, w, A => if (p : Int) = ak then (A ||| 2 ^ p, none) else if bar.testBit p = false then (A ||| 2 ^ p, some (w, [p])) else askL M day (askF M bar ak day n) p w (M.1 2) 0 (A ||| 2 ^ p)
theorem OKM.tk {M : Od} (h : OKM M) {k : Nat} (hk : k < M.1 2) : M.2.1 2 k 1 = (tk M k : Int) ∧ tk M k < 16 := by
  have := h.2.2.1 k hk
  rw [tk_un]
  omega
/-- what an answer is like -/
def aOK (n : Nat) (r : Nat × Option (Int × List Nat)) : Prop := r.1 < 65536 ∧ ∀ x L, r.2 = some (x, L) → 0 ≤ x ∧ x ≤ 9999 ∧ 1 ≤ L.length ∧ L.length ≤ n ∧ ∀ e ∈ L, e < 16
theorem askL_ok {M : Od} (hO : OKM M) {day : Int} {rec : Nat → Int → Nat → Nat × Option (Int × List Nat)} {p n : Nat} {w : Int} (hp : p < 16) (h0 : 0 ≤ w) (h1 : w ≤ 9999) (hr : ∀ p w A, p < 16 → 0 ≤ w → w ≤ 9999 → A < 65536 → aOK n (rec p w A)) : ∀ (q k A : Nat), k + q ≤ M.1 2 → A < 65536 → aOK (n + 1) (askL M day rec p w q k A) := by
  intro q
  induction q with
  | zero => intro k A _ hA; exact ⟨hA, fun x L h => by cases h⟩
  | succ q ih =>
    intro k A hk hA
    unfold askL
    split
    · have t := hO.tk (k := k) (by omega)
      have c := hO.2.2.1 k (by omega)
      have g := hr (tk M k) (min w (M.2.1 2 k 4)) A t.2 (by omega) (by omega) hA
      split
      · next A' x L e =>
        rw [e] at g
        obtain ⟨g1, g2⟩ := g
        refine ⟨g1, fun x' L' h => ?_⟩
        cases h
        obtain ⟨a1, a2, a3, a4, a5⟩ := g2 x L rfl
        refine ⟨a1, a2, by simp, by simp; omega, fun e he => ?_⟩
        rcases List.mem_cons.mp he with rfl | he
        · exact hp
        · exact a5 e he
      · next A' e =>
        rw [e] at g
        exact ih (k + 1) A' (by omega) g.1
    · exact ih (k + 1) A (by omega) hA
theorem askF_ok {M : Od} (hO : OKM M) {bar : Nat} {ak day : Int} : ∀ (n p : Nat) (w : Int) (A : Nat), p < 16 → 0 ≤ w → w ≤ 9999 → A < 65536 → aOK n (askF M bar ak day n p w A) := by
  intro n
  induction n with
  | zero => intro p w A _ _ _ hA; exact ⟨hA, fun x L h => by cases h⟩
  | succ n ih =>
    intro p w A hp h0 h1 hA
    have hA' := zb_lt hA hp
    unfold askF
    split
    · exact ⟨hA', fun x L h => by cases h⟩
    · split
      · refine ⟨hA', fun x L h => ?_⟩
        cases h
        exact ⟨h0, h1, by simp, by simp, fun e he => by rw [List.mem_singleton.mp he]; exact hp⟩
      · exact askL_ok hO hp h0 h1 ih _ _ _ (by omega) hA'
/-- Desk's world: the object, its line, its State -/
def wD (ln f s t : Nat → Int32) (ak dy br ad dp lm rs : Int32) : List AE := [.inr (.inr (0, [.ref 2, .ref 1, .int ak, .int dy, .int br, .int ad, .int dp, .int lm, .int rs])), .inl (0, 16, ln), .inr (.inr (6, [.ref 3, .ref 4, .ref 5])), .inl (0, 648, f), .inl (0, 6, s), .inl (0, 3, t)]
def pD : List (Nat × List Nat) := [(0, []), (0, [1]), (0, [0]), (0, [0, 0]), (0, [0, 1]), (0, [0, 2])]
/-- how the line and the numbers are behind an answer -/
def aRes (lv : Nat) (ln ln' : Nat → Int32) (dp lm : Int32) (r : Option (Int × List Nat)) : Prop := (∀ i, i < lv → ln' i = ln i) ∧ ∀ x L, r = some (x, L) → lm = iI x ∧ dp = iI ((lv + L.length : Nat) - 1 : Int) ∧ ∀ (i e : Nat), L[i]? = some e → ln' (lv + i) = iI (e : Int)
def sp_askOne (n : Nat) : Sp := (10 + n, 0, 0, pD, fun as σ K => ∃ (ln f s t : Nat → Int32) (M : Od) (ak day : Int) (bar A p lv : Nat) (w : Int) (dp lm rs : Int32), as = [.ref 0, .int (iI p), .int (iI w), .int (iI lv)] ∧ σ = wD ln f s t (iI ak) (iI day) (iI bar) (iI A) dp lm rs ∧ RS f s t M ∧ OKM M ∧ lv + n = 16 ∧ p < 16 ∧ 0 ≤ w ∧ w ≤ 9999 ∧ A < 65536 ∧ bar < 65536 ∧ ir ak ∧ ir day ∧
  ∀ ln' dp' lm', aRes lv ln ln' dp' lm' (askF M bar ak day n p w A).2 → K (some (.int (bI (askF M bar ak day n p w A).2.isSome))) (some (wD ln' f s t (iI ak) (iI day) (iI bar) (iI (askF M bar ak day n p w A).1) dp' lm' rs)))
theorem v_askOne (l : Launch) : ∀ n, z_V l 2 (sp_askOne n) := by
  intro n
  induction n with
  | zero =>
    refine z_V.of (by decide +kernel) ?_
    rintro as σ K ⟨ln, f, s, t, M, ak, day, bar, A, p, lv, w, dp, lm, rs, rfl, rfl, hR, hO, hlv, hp, h0, h1, hA, hbar, hak, hdy, hK⟩
    refine AW.go (bs := b_Desk_askOne) [63] 90 t_Desk_askOne ?_
    refine And.intro (fun h => ?_) (fun h => ?_)
    · rw [zn_i, zc_lt (by omega) (by omega) (by omega) (by omega)] at h
      omega
    · exact And.intro (Or.inl rfl) (Or.inr (hK ln dp lm ⟨fun _ _ => rfl, fun x L h => by cases h⟩))
  | succ n ih =>
    refine z_V.of (by decide +kernel) ?_
    rintro as σ K ⟨ln, f, s, t, M, ak, day, bar, A, p, lv, w, dp, lm, rs, rfl, rfl, hR, hO, hlv, hp, h0, h1, hA, hbar, ⟨k1, k2⟩, hdy, hK⟩
    have hs := hR.size 2 (by omega)
    have hm := hR.max40 2 (by omega)
    have hA' := zb_lt hA hp
    have ea : iI (A : Int) ||| iI 1 <<< (iI (p : Int) &&& 31) = iI ((A ||| 2 ^ p : Nat) : Int) := by rw [zb_shl p (by omega), zb_or]
    have loop : ∀ (q k B : Nat) (x : Int32) (b : Int32) (ln1 : Nat → Int32) (dp1 lm1 : Int32) (v5 v6 : Option Value), q = M.1 2 - k → k ≤ M.1 2 → x = iI (k : Int) → b = iI (B : Int) → B < 65536 → (∀ i, i < lv → ln1 i = ln i) → ln1 lv = iI (p : Int) → askL M day (askF M bar ak day n) p w (M.1 2 - k) k B = askF M bar ak day (n + 1) p w A →
        AW l 2 (10 + (n + 1)) 0 0 6 none (fun r σ' => (σ' = wD ln f s t (iI ak) (iI day) (iI bar) (iI A) dp lm rs ∧ K r none) ∨ K r (some σ')) 63 [some (.ref 0), some (.int (iI p)), some (.int (iI w)), some (.int (iI lv)), some (.int x), v5, v6] [] (wD ln1 f s t (iI ak) (iI day) (iI bar) b dp1 lm1 rs) 0 0 := by
      intro q
      induction q using Nat.strongRecOn with
      | ind q ihq =>
        intro k B x b ln1 dp1 lm1 v5 v6 hq hk0 hx hb hB hl1 hl2 hfin
        subst hx; subst hb
        refine AW.go (bs := b_Desk_askOne) [63] 90 t_Desk_askOne ?_
        refine And.intro (zn_in (by omega) (by omega)) ?_
        refine And.intro (fun h => ?_) (fun h => ?_)
        · rw [zn_cl (by omega), hs, zc_ge (by omega) (by omega) (by omega) (by omega)] at h
          rw [show M.1 2 - k = 0 by omega, askL] at hfin
          rw [← hfin] at hK
          exact And.intro (Or.inl rfl) (Or.inr (hK ln1 dp1 lm1 ⟨hl1, fun x L h => by cases h⟩))
        · rw [zn_cl (by omega), hs, zc_ge (by omega) (by omega) (by omega) (by omega)] at h
          have hk : k < M.1 2 := by omega
          have c := hO.2.2.1 k hk
          have ht := hO.tk hk
          rw [show M.1 2 - k = (M.1 2 - (k + 1)) + 1 by omega, askL] at hfin
          have skip : ∀ (v5 v6 : Option Value), ¬ (M.2.1 2 k 0 = (p : Int) ∧ cov M 2 k day = true ∧ B.testBit (tk M k) = false) → AW l 2 (10 + (n + 1)) 0 0 6 none (fun r σ' => (σ' = wD ln f s t (iI ak) (iI day) (iI bar) (iI A) dp lm rs ∧ K r none) ∨ K r (some σ')) 63 [some (.ref 0), some (.int (iI p)), some (.int (iI w)), some (.int (iI lv)), some (.int (iI (k : Int) + z_nn 1 0)), v5, v6] [] (wD ln1 f s t (iI ak) (iI day) (iI bar) (iI B) dp1 lm1 rs) 0 0 := by
            intro v5 v6 hno
            rw [if_neg hno] at hfin
            exact ihq _ (by omega) (k + 1) B _ _ ln1 dp1 lm1 v5 v6 rfl (by omega) (zn_inc k) rfl hB hl1 hl2 hfin
          refine ⟨_, v_cell l, by show 0 < _; omega, f, s, t, rfl, M, 2, k, 0, rfl, hR, by omega, hk, by decide, ?_⟩
          refine And.intro (fun h3 => ?_) (fun h3 => ?_)
          · rw [zc_ne (by omega) (by omega) (by omega) (by omega)] at h3
            exact skip _ _ (fun q => h3 q.1)
          · rw [zc_ne (by omega) (by omega) (by omega) (by omega), Classical.not_not] at h3
            refine ⟨_, v_covers l, by show 0 < _; omega, f, s, t, rfl, M, 2, k, day, rfl, hR, hO, by omega, hk, hdy, ?_⟩
            refine And.intro (fun h4 => ?_) (fun h4 => ?_)
            · rw [zc_bne] at h4
              refine ⟨_, v_cell l, by show 0 < _; omega, f, s, t, rfl, M, 2, k, 1, rfl, hR, by omega, hk, by decide, ?_⟩
              refine ⟨_, v_cell l, by show 0 < _; omega, f, s, t, rfl, M, 2, k, 4, rfl, hR, by omega, hk, by decide, ?_⟩
              show ∃ sp : Sp, _
              rw [min_iI (by omega) (by omega) (by omega) (by omega), ht.1]
              refine ⟨_, v_isIn l, by show 0 < _; omega, rfl, B, tk M k, rfl, by omega, by omega, ?_⟩
              refine And.intro (fun h5 => ?_) (fun h5 => ?_)
              · rw [zc_bne] at h5
                exact skip _ _ (fun q => by rw [h5] at q; cases q.2.2)
              · rw [zc_bne] at h5
                have h5' : B.testBit (tk M k) = false := by simpa using h5
                rw [if_pos ⟨h3, h4, h5'⟩] at hfin
                show ∃ sp : Sp, _
                rw [zn_inc]
                refine ⟨_, ih, by show 10 + n < 10 + (n + 1); omega, ln1, f, s, t, M, ak, day, bar, B, tk M k, lv + 1, min w (M.2.1 2 k 4), dp1, lm1, rs, rfl, rfl, hR, hO, by omega, ht.2, by omega, by omega, hB, hbar, ⟨k1, k2⟩, hdy, fun ln2 dp2 lm2 hres => ?_⟩
                have hok := askF_ok hO (bar := bar) (ak := ak) (day := day) n (tk M k) (min w (M.2.1 2 k 4)) B ht.2 (by omega) (by omega) hB
                refine And.intro (fun h6 => ?_) (fun h6 => ?_)
                · rw [zc_beq] at h6
                  cases hr : askF M bar ak day n (tk M k) (min w (M.2.1 2 k 4)) B with
                  | mk B' r =>
                    rw [hr] at hfin hok h6 hres
                    cases r with
                    | some z => cases h6
                    | none => exact ihq _ (by omega) (k + 1) B' _ _ ln2 dp2 lm2 _ _ rfl (by omega) (zn_inc k) rfl hok.1 (fun i hi => by rw [hres.1 i (by omega)]; exact hl1 i hi) (by rw [hres.1 lv (by omega)]; exact hl2) hfin
                · rw [zc_beq] at h6
                  cases hr : askF M bar ak day n (tk M k) (min w (M.2.1 2 k 4)) B with
                  | mk B' r =>
                    rw [hr] at hfin hok h6 hres
                    cases r with
                    | none => exact absurd rfl h6
                    | some z =>
                      obtain ⟨x, L⟩ := z
                      rw [← hfin] at hK
                      obtain ⟨g1, g2, g3⟩ := hres.2 x L rfl
                      refine And.intro (Or.inr rfl) (Or.inr (hK ln2 dp2 lm2 ⟨fun i hi => by rw [hres.1 i (by omega)]; exact hl1 i hi, fun x' L' e => ?_⟩))
                      cases e
                      refine ⟨g1, by rw [g2]; congr 1; simp only [List.length_cons]; omega, fun i e hi => ?_⟩
                      cases i with
                      | zero =>
                        have : p = e := by simpa using hi
                        rw [Nat.add_zero, hres.1 lv (by omega), hl2, this]
                      | succ i =>
                        rw [show lv + (i + 1) = lv + 1 + i by omega]
                        exact g3 i e (by simpa using hi)
            · rw [zc_bne] at h4
              exact skip _ _ (fun q => h4 q.2.1)
    refine AW.go (bs := b_Desk_askOne) [63] 90 t_Desk_askOne ?_
    refine And.intro (fun h => ?_) (fun h => ?_)
    · show _ ∧ _
      rw [show z_nn 1 0 = iI 1 from rfl, ea]
      refine And.intro (zN_in (by omega) (by omega)) ?_
      rw [zN_cl (by omega)]
      have hpre : ∀ i, i < lv → upd ln lv (iI (p : Int)) i = ln i := fun i hi => by unfold upd; rw [if_neg (by omega)]
      have hat : upd ln lv (iI (p : Int)) lv = iI (p : Int) := by unfold upd; rw [if_pos rfl]
      refine And.intro (fun h2 => ?_) (fun h2 => ?_)
      · rw [zc_ne (by omega) (by omega) k1 k2] at h2
        refine ⟨_, v_isIn l, by show 0 < 10 + (n + 1); omega, rfl, bar, p, rfl, by omega, by omega, ?_⟩
        refine And.intro (fun h3 => ?_) (fun h3 => ?_)
        · rw [zc_bne] at h3
          refine loop _ 0 (A ||| 2 ^ p) _ _ _ dp lm _ _ rfl (by omega) rfl rfl hA' hpre hat ?_
          rw [askF, if_neg h2, if_neg (by rw [h3]; decide), Nat.sub_zero]
        · rw [zc_bne] at h3
          have h3' : bar.testBit p = false := by simpa using h3
          rw [askF, if_neg h2, if_pos h3'] at hK
          refine And.intro (Or.inr rfl) (Or.inr (hK _ _ _ ⟨hpre, fun x L e => ?_⟩))
          cases e
          refine ⟨rfl, by congr 1; simp, fun i e hi => ?_⟩
          cases i with
          | zero => have : p = e := by simpa using hi
                    rw [Nat.add_zero, hat, this]
          | succ i => simp at hi
      · rw [zc_ne (by omega) (by omega) k1 k2, Classical.not_not] at h2
        rw [askF, if_pos h2] at hK
        exact And.intro (Or.inl rfl) (Or.inr (hK _ _ _ ⟨hpre, fun x L e => by cases e⟩))
    · rw [zn_i, zc_lt (by omega) (by omega) (by omega) (by omega)] at h
      omega
