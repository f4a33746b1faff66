/-! who gives to whom -/
theorem cntF_mono {P P' : Nat → Bool} (h : ∀ i, P i = true → P' i = true) : ∀ n, cntF P n ≤ cntF P' n
  | 0 => Nat.le_refl _
  | n + 1 => by
    have ih := cntF_mono h n
    unfold cntF
    by_cases e : P n = true
    · rw [if_pos e, if_pos (h n e)]; omega
    · rw [if_neg e]; split <;> omega
theorem cntF_lt {P P' : Nat → Bool} (h : ∀ i, P i = true → P' i = true) : ∀ {n i : Nat}, i < n → P i = false → P' i = true → cntF P n < cntF P' n
  | 0, i, hi, _, _ => by omega
  | n + 1, i, hi, h1, h2 => by
    unfold cntF
    rcases Nat.lt_or_ge i n with q | q
    · have ih := cntF_lt h q h1 h2
      by_cases e : P n = true
      · rw [if_pos e, if_pos (h n e)]; omega
      · rw [if_neg e]; split <;> omega
    · have : i = n := by omega
      subst this
      have := cntF_mono h i
      rw [h1, if_neg (by decide), if_pos h2]; omega
theorem zb_andn {a b : Nat} (ha : a < 65536) (hb : b < 65536) : iI (a : Int) &&& (iI (b : Int) ^^^ z_nn 1 1) = iI ((a &&& (b ^^^ 65535) : Nat) : Int) := by
  rw [← iI_nI, ← iI_nI, ← iI_nI]
  apply Int32.toBitVec_inj.1
  show BitVec.ofNat 32 a &&& (BitVec.ofNat 32 b ^^^ (z_nn 1 1).toBitVec) = BitVec.ofNat 32 _
  rw [show (z_nn 1 1).toBitVec = BitVec.allOnes 32 from by decide]
  apply BitVec.eq_of_getLsbD_eq
  intro i hi
  simp only [BitVec.getLsbD_and, BitVec.getLsbD_xor, BitVec.getLsbD_ofNat, BitVec.getLsbD_allOnes, hi, decide_true, Bool.true_and, Nat.testBit_and, Nat.testBit_xor]
  rcases Nat.lt_or_ge i 16 with q | q
  · have : (65535 : Nat).testBit i = true := by
      have key : ∀ i, i < 16 → (65535 : Nat).testBit i = true := by decide +kernel
      exact key i q
    rw [this]
  · rw [Nat.testBit_lt_two_pow (Nat.lt_of_lt_of_le ha (show (65536 : Nat) ≤ 2 ^ _ from Nat.pow_le_pow_right (n := 2) (by decide) q)), Bool.false_and, Bool.false_and]
theorem andn_test {a b : Nat} (ha : a < 65536) (i : Nat) : (a &&& (b ^^^ 65535)).testBit i = (a.testBit i && !b.testBit i) := by
  rw [Nat.testBit_and, Nat.testBit_xor]
  rcases Nat.lt_or_ge i 16 with q | q
  · have : (65535 : Nat).testBit i = true := by
      have key : ∀ i, i < 16 → (65535 : Nat).testBit i = true := by decide +kernel
      exact key i q
    rw [this]; cases b.testBit i <;> rfl
  · rw [Nat.testBit_lt_two_pow (Nat.lt_of_lt_of_le ha (show (65536 : Nat) ≤ 2 ^ _ from Nat.pow_le_pow_right (n := 2) (by decide) q)), Bool.false_and, Bool.false_and]
theorem andn_lt {a b : Nat} (ha : a < 65536) : (a &&& (b ^^^ 65535)) < 65536 := Nat.lt_of_le_of_lt Nat.and_le_left ha
def gv1 (M : Od) (p : Nat) (day : Int) (k : Nat) : Bool := decide (M.2.1 2 k 0 = (p : Int)) && cov M 2 k day
/-- those whom p gives to on a day -/
def gvM (M : Od) (day : Int) (p : Nat) : Nat := bitsF (gv1 M p day) (tk M) (M.1 2)
theorem gvM_lt {M : Od} (hO : OKM M) (day : Int) (p : Nat) : gvM M day p < 65536 := bitsF_lt (w := 16) (fun k hk _ => (hO.tk hk).2)
def wW (g : Nat → Int32) : List AE := [.inr (.inr (8, [.ref 1])), .inl (0, 16, g)]
def pW : List (Nat × List Nat) := [(0, []), (0, [0])]
def wWS (g f s t : Nat → Int32) : List AE := [.inr (.inr (8, [.ref 1])), .inl (0, 16, g), .inr (.inr (6, [.ref 3, .ref 4, .ref 5])), .inl (0, 648, f), .inl (0, 6, s), .inl (0, 3, t)]
def pWS : List (Nat × List Nat) := [(0, []), (0, [0]), (1, []), (1, [0]), (1, [1]), (1, [2])]
def sp_spin : Sp := (1, 0, 0, pWS, fun as σ K => ∃ (g f s t : Nat → Int32) (M : Od) (day : Int), as = [.ref 0, .ref 2, .int (iI day)] ∧ σ = wWS g f s t ∧ RS f s t M ∧ OKM M ∧ ir day ∧ ∀ g', (∀ p, p < 16 → g' p = iI (gvM M day p : Nat)) → K none (some (wWS g' f s t)))
theorem v_spin (l : Launch) : z_V l 72 sp_spin := by
  refine z_V.ofP (by decide +kernel) ?_
  rintro as σ K Post ⟨g, f, s, t, M, day, rfl, rfl, hR, hO, hdy, hK⟩ hP1 hP0
  have hs := hR.size 2 (by omega)
  have hm := hR.max40 2 (by omega)
  have loop2 : ∀ (n k : Nat) (x : Int32) (g : Nat → Int32), n = M.1 2 - k → k ≤ M.1 2 → x = iI (k : Int) → (∀ p, p < 16 → g p = iI (bitsF (gv1 M p day) (tk M) k : Nat)) →
      AW l 72 1 0 0 6 none Post 23 [some (.ref 0), some (.ref 2), some (.int (iI day)), some (.int x)] [] (wWS g f s t) 0 0 := by
    intro n
    induction n using Nat.strongRecOn with
    | ind n ih =>
      intro k x g hn h2 hx hg
      subst hx
      refine AW.go (bs := b_Web_spin) [23] 60 t_Web_spin ?_
      refine And.intro (zn_in (by omega) (by omega)) ?_
      refine And.intro (fun h => ?_) (fun h => ?_)
      · rw [zn_cl (by omega), hs, zc_ge (by omega) (by omega) (by omega) (by omega)] at h
        have : k = M.1 2 := by omega
        subst this
        exact hP1 _ _ (hK _ hg)
      · rw [zn_cl (by omega), hs, zc_ge (by omega) (by omega) (by omega) (by omega)] at h
        have hk : k < M.1 2 := by omega
        refine ⟨_, v_covers l, by decide, f, s, t, rfl, M, 2, k, day, rfl, hR, hO, by omega, hk, hdy, ?_⟩
        refine And.intro (fun h3 => ?_) (fun h3 => ?_)
        · rw [zc_beq] at h3
          refine ih _ (by omega) (k + 1) _ _ rfl (by omega) (zn_inc k) (fun p hp => ?_)
          rw [hg p hp, bitsF, gv1, h3, Bool.and_false]; rfl
        · rw [zc_beq, Bool.not_eq_false] at h3
          obtain ⟨t1, t2⟩ := hO.tk hk
          obtain ⟨w1, w2, -⟩ := hO.2.2.1 k hk
          obtain ⟨q, hq⟩ : ∃ q : Nat, M.2.1 2 k 0 = (q : Int) := ⟨(M.2.1 2 k 0).toNat, by omega⟩
          have hq16 : q < 16 := by omega
          refine ⟨_, v_cell l, by decide, f, s, t, rfl, M, 2, k, 0, rfl, hR, by omega, hk, by decide, ?_⟩
          rw [hq]
          refine And.intro (zN_in hq16 (by omega)) ?_
          refine ⟨_, v_cell l, by decide, f, s, t, rfl, M, 2, k, 1, rfl, hR, by omega, hk, by decide, ?_⟩
          rw [t1]
          refine And.intro (zN_in hq16 (by omega)) ?_
          show AW _ _ _ _ _ _ _ _ _ _ _ _ _ _
          rw [zN_cl (by omega), show z_nn 1 0 = iI 1 from rfl, zb_shl _ (by omega), hg q hq16, zb_or]
          refine ih _ (by omega) (k + 1) _ _ rfl (by omega) (zn_inc k) (fun p hp => ?_)
          unfold upd
          by_cases e : p = q
          · subst e
            rw [if_pos rfl, bitsF, gv1, h3, hq, decide_eq_true rfl]; rfl
          · rw [if_neg e, hg p hp, bitsF, gv1, h3, hq, decide_eq_false (by omega)]; rfl
  have loop1 : ∀ (n k : Nat) (x : Int32) (g : Nat → Int32), n = 16 - k → k ≤ 16 → x = iI (k : Int) → (∀ p, p < k → g p = iI 0) →
      AW l 72 1 0 0 6 none Post 2 [some (.ref 0), some (.ref 2), some (.int (iI day)), some (.int x)] [] (wWS g f s t) 0 0 := by
    intro n
    induction n using Nat.strongRecOn with
    | ind n ih =>
      intro k x g hn h2 hx hg
      subst hx
      refine AW.go (bs := b_Web_spin) [2, 23] 60 t_Web_spin ?_
      refine And.intro (fun h => ?_) (fun h => ?_)
      · rw [zn_i, zc_ge (by omega) (by omega) (by omega) (by omega)] at h
        exact loop2 _ 0 _ _ rfl (by omega) rfl (fun p hp => hg p (by omega))
      · rw [zn_i, zc_ge (by omega) (by omega) (by omega) (by omega)] at h
        refine And.intro (zN_in (by omega) (by omega)) ?_
        show AW _ _ _ _ _ _ _ _ _ _ _ _ _ _
        rw [zN_cl (by omega)]
        refine ih _ (by omega) (k + 1) _ _ rfl (by omega) (zn_inc k) (fun p hp => ?_)
        unfold upd
        by_cases e : p = k
        · rw [if_pos e]; rfl
        · rw [if_neg e]; exact hg p (by omega)
  refine AW.go (bs := b_Web_spin) [2] 60 t_Web_spin ?_
  exact loop1 _ 0 _ g rfl (by omega) rfl (fun p hp => by omega)
/-- closed: with one all whom it gives to -/
def gC (G : Nat → Nat) (S : Nat → Prop) : Prop := ∀ i j, i < 16 → S i → (G i).testBit j = true → S j
def Rc (G : Nat → Nat) (p q : Nat) : Prop := ∀ S : Nat → Prop, (∀ j, (G p).testBit j = true → S j) → gC G S → S q
noncomputable def rM (G : Nat → Nat) (p : Nat) : Nat := bitsF (fun k => @decide (Rc G p k) (Classical.propDecidable _)) id 16
theorem Rc.lt {G : Nat → Nat} (hG : ∀ p, p < 16 → G p < 65536) {p q : Nat} (hp : p < 16) (h : Rc G p q) : q < 16 := by
  have key : ∀ i j, i < 16 → (G i).testBit j = true → j < 16 := by
    intro i j hi hj
    apply Nat.lt_of_not_le
    intro q
    rw [Nat.testBit_lt_two_pow (Nat.lt_of_lt_of_le (hG i hi) (show (65536 : Nat) ≤ 2 ^ _ from Nat.pow_le_pow_right (n := 2) (by decide) q))] at hj
    cases hj
  exact h (fun j => j < 16) (fun j hj => key p j hp hj) (fun i j hi _ hj => key i j hi hj)
theorem rM_test {G : Nat → Nat} (hG : ∀ p, p < 16 → G p < 65536) {p q : Nat} (hp : p < 16) : (rM G p).testBit q = true ↔ Rc G p q := by
  unfold rM
  rw [bitsF_test]
  constructor
  · rintro ⟨i, h1, h2, h3⟩
    have : i = q := h3
    subst this
    exact @of_decide_eq_true _ (Classical.propDecidable _) h2
  · intro h
    exact ⟨q, h.lt hG hp, @decide_eq_true _ (Classical.propDecidable _) h, rfl⟩
theorem rM_eq {G : Nat → Nat} (hG : ∀ p, p < 16 → G p < 65536) {p m : Nat} (hp : p < 16) (h1 : ∀ q, m.testBit q = true → Rc G p q) (h2 : ∀ j, (G p).testBit j = true → m.testBit j = true) (h3 : gC G (fun q => m.testBit q = true)) : m = rM G p := by
  apply Nat.eq_of_testBit_eq
  intro i
  rw [Bool.eq_iff_iff, rM_test hG hp]
  exact ⟨h1 i, fun h => h _ h2 h3⟩
def spW (rk : Nat) (P : (Nat → Nat) → List Value → (Option Value → Prop) → Prop) : Sp := (rk, 0, 0, pW, fun as σ K => ∃ (g : Nat → Int32) (G : Nat → Nat), σ = wW g ∧ (∀ p, p < 16 → g p = iI (G p : Nat) ∧ G p < 65536) ∧ P G as (fun r => K r none))
def sp_reachedFrom : Sp := spW 1 (fun G as K => ∃ p : Nat, as = [.ref 0, .int (iI p)] ∧ p < 16 ∧ K (some (.int (iI (rM G p : Nat)))))
theorem v_reachedFrom (l : Launch) : z_V l 74 sp_reachedFrom := by
  refine z_V.ofP (by decide +kernel) ?_
  rintro as σ K Post ⟨g, G, rfl, hG, p, rfl, hp, hK⟩ hP1 hP0
  have hG2 : ∀ p, p < 16 → G p < 65536 := fun p h => (hG p h).2
  have step : ∀ (B o : Nat), o < 16 → B.testBit o = true → (∀ q, B.testBit q = true → Rc G p q) → ∀ q, (B ||| G o).testBit q = true → Rc G p q := by
    intro B o ho hB h q hq
    rw [Nat.testBit_or, Bool.or_eq_true] at hq
    rcases hq with hq | hq
    · exact h q hq
    · exact fun S h1 h2 => h2 o q ho (h o hB S h1 h2) hq
  have loop : ∀ (n t o : Nat) (B B0 : Nat) (x y : Int32), n = (16 - t) * 17 + (16 - o) → t < 16 → o ≤ 16 → x = iI (t : Int) → y = iI (o : Int) → B < 65536 → (∀ q, B.testBit q = true → Rc G p q) → (∀ j, (G p).testBit j = true → B.testBit j = true) → (∀ i, B0.testBit i = true → B.testBit i = true) → (∀ i, i < o → B0.testBit i = true → ∀ j, (G i).testBit j = true → B.testBit j = true) → (gC G (fun q => B0.testBit q = true) ∨ t ≤ cntF (fun i => B0.testBit i) 16) → (gC G (fun q => B0.testBit q = true) → B = B0) →
      AW l 74 1 0 0 2 none Post 18 [some (.ref 0), some (.int (iI p)), some (.int (iI (B : Int))), some (.int x), some (.int y)] [] (wW g) 0 0 := by
    intro n
    induction n using Nat.strongRecOn with
    | ind n ih =>
      intro t o B B0 x y hn ht ho hx hy hB h1 h2 h3 h4 h5 h6
      subst hx; subst hy
      refine AW.go (bs := b_Web_reachedFrom) [18] 80 t_Web_reachedFrom ?_
      refine And.intro (fun h => ?_) (fun h => ?_)
      · rw [zn_i, zc_ge (by omega) (by omega) (by omega) (by omega)] at h
        have ho : o = 16 := by omega
        subst ho
        have h7 : gC G (fun q => B.testBit q = true) ∨ t + 1 ≤ cntF (fun i => B.testBit i) 16 := by
          by_cases e : B = B0
          · left
            intro i j hi hs hj
            exact h4 i hi (by rw [← e]; exact hs) j hj
          · right
            rcases h5 with h5 | h5
            · exact absurd (h6 h5) e
            · obtain ⟨i, hi⟩ : ∃ i, B.testBit i ≠ B0.testBit i := by
                apply Classical.byContradiction
                intro hn
                exact e (Nat.eq_of_testBit_eq (fun i => Classical.byContradiction (fun q => hn ⟨i, q⟩)))
              have hi1 : B.testBit i = true := by
                cases hb : B.testBit i with
                | true => rfl
                | false => cases hc : B0.testBit i with
                  | false => exact absurd (by rw [hb, hc]) hi
                  | true => rw [h3 i hc] at hb; cases hb
              have hi0 : B0.testBit i = false := by
                cases hc : B0.testBit i with
                | false => rfl
                | true => exact absurd (by rw [hi1, hc]) hi
              have := cntF_lt (P := fun i => B0.testBit i) (P' := fun i => B.testBit i) h3 ((h1 i hi1).lt hG2 hp) hi0 hi1
              omega
        refine And.intro (fun h => ?_) (fun h => ?_)
        · rw [zn_i, zn_i, iI_add, zc_ge (by omega) (by omega) (by omega) (by omega)] at h
          have ht : t = 15 := by omega
          subst ht
          have : B = rM G p := by
            refine rM_eq hG2 hp h1 h2 ?_
            rcases h7 with h7 | h7
            · exact h7
            · intro i j hi _ hj
              have hj16 : j < 16 := by
                apply Nat.lt_of_not_le
                intro q
                rw [Nat.testBit_lt_two_pow (Nat.lt_of_lt_of_le (hG2 i hi) (show (65536 : Nat) ≤ 2 ^ _ from Nat.pow_le_pow_right (n := 2) (by decide) q))] at hj
                cases hj
              exact cntF_full h7 j hj16
          rw [← this] at hK
          exact hP0 _ hK
        · rw [zn_i, zn_i, iI_add, zc_ge (by omega) (by omega) (by omega) (by omega)] at h
          exact ih _ (by omega) (t + 1) 0 B B _ _ rfl (by omega) (by omega) (zn_inc t) rfl hB h1 h2 (fun _ h => h) (fun i hi => by omega) h7 (fun _ => rfl)
      · rw [zn_i, zc_ge (by omega) (by omega) (by omega) (by omega)] at h
        refine ⟨_, v_isIn l, by decide, rfl, B, o, rfl, by omega, by omega, ?_⟩
        refine And.intro (fun h8 => ?_) (fun h8 => ?_)
        · rw [zc_beq] at h8
          refine ih _ (by omega) t (o + 1) B B0 _ _ rfl ht (by omega) rfl (zn_inc o) hB h1 h2 h3 (fun i hi hi0 => ?_) h5 h6
          rcases Nat.lt_or_ge i o with q | q
          · exact h4 i q hi0
          · have : i = o := by omega
            subst this
            rw [h3 i hi0] at h8; cases h8
        · rw [zc_beq, Bool.not_eq_false] at h8
          refine And.intro (zN_in (by omega) (by omega)) ?_
          show AW _ _ _ _ _ _ _ _ _ _ _ _ _ _
          rw [zN_cl (by omega), (hG o (by omega)).1, zb_or]
          have hsub : ∀ i, B.testBit i = true → (B ||| G o).testBit i = true := fun i hi => by rw [Nat.testBit_or, hi, Bool.true_or]
          refine ih _ (by omega) t (o + 1) (B ||| G o) B0 _ _ rfl ht (by omega) rfl (zn_inc o) (Nat.or_lt_two_pow (n := 16) hB (hG2 o (by omega))) (step B o (by omega) h8 h1) (fun j hj => hsub j (h2 j hj)) (fun i hi => hsub i (h3 i hi)) (fun i hi hi0 j hj => ?_) h5 (fun hc => ?_)
          · rcases Nat.lt_or_ge i o with q | q
            · exact hsub j (h4 i q hi0 j hj)
            · have : i = o := by omega
              subst this
              rw [Nat.testBit_or, hj, Bool.or_true]
          · have e := h6 hc
            subst e
            apply Nat.eq_of_testBit_eq
            intro j
            rw [Nat.testBit_or]
            cases hb : (G o).testBit j with
            | false => rw [Bool.or_false]
            | true => rw [Bool.or_true]; exact (hc o j (by omega) h8 hb).symm
  refine AW.go (bs := b_Web_reachedFrom) [18] 80 t_Web_reachedFrom ?_
  refine And.intro (zN_in (by omega) (by omega)) ?_
  refine And.intro (fun h => ?_) (fun h => ?_)
  · rw [zn_i, zn_i, zc_ge (by omega) (by omega) (by omega) (by omega)] at h; omega
  · show AW _ _ _ _ _ _ _ _ _ _ _ _ _ _
    rw [zN_cl (by omega), (hG p hp).1]
    exact loop _ 0 0 (G p) (G p) _ _ rfl (by omega) (by omega) rfl rfl (hG2 p hp) (fun q hq S h1 h2 => h1 q hq) (fun _ h => h) (fun _ h => h) (fun i hi => by omega) (Or.inr (Nat.zero_le _)) (fun _ => rfl)
noncomputable def ringF (G : Nat → Nat) : Nat := bitsF (fun p => (rM G p).testBit p) id 16
def sp_ringBits : Sp := spW 2 (fun G as K => as = [.ref 0] ∧ K (some (.int (iI (ringF G : Nat)))))
theorem v_ringBits (l : Launch) : z_V l 73 sp_ringBits := by
  refine z_V.ofP (by decide +kernel) ?_
  rintro as σ K Post ⟨g, G, rfl, hG, rfl, hK⟩ hP1 hP0
  have hG2 : ∀ p, p < 16 → G p < 65536 := fun p h => (hG p h).2
  have loop : ∀ (n k : Nat) (x y : Int32), n = 16 - k → k ≤ 16 → x = iI (k : Int) → y = iI (bitsF (fun p => (rM G p).testBit p) id k : Nat) →
      AW l 73 2 0 0 2 none Post 4 [some (.ref 0), some (.int y), some (.int x)] [] (wW g) 0 0 := by
    intro n
    induction n using Nat.strongRecOn with
    | ind n ih =>
      intro k x y hn hk hx hy
      subst hx; subst hy
      refine AW.go (bs := b_Web_ringBits) [4] 60 t_Web_ringBits ?_
      refine And.intro (fun h => ?_) (fun h => ?_)
      · rw [zn_i, zc_ge (by omega) (by omega) (by omega) (by omega)] at h
        have : k = 16 := by omega
        subst this
        exact hP0 _ hK
      · rw [zn_i, zc_ge (by omega) (by omega) (by omega) (by omega)] at h
        refine ⟨_, v_reachedFrom l, by decide, g, G, rfl, hG, k, rfl, by omega, ?_⟩
        have hlt : rM G k < 65536 := bitsF_lt (w := 16) (fun k hk _ => hk)
        refine ⟨_, v_isIn l, by decide, rfl, rM G k, k, rfl, by omega, by omega, ?_⟩
        refine And.intro (fun h8 => ?_) (fun h8 => ?_)
        · rw [zc_beq] at h8
          refine ih _ (by omega) (k + 1) _ _ rfl (by omega) (zn_inc k) ?_
          rw [bitsF, h8]; rfl
        · rw [zc_beq, Bool.not_eq_false] at h8
          refine ih _ (by omega) (k + 1) _ _ rfl (by omega) (zn_inc k) ?_
          show iI _ ||| iI 1 <<< (iI (k : Int) &&& 31) = _
          rw [zb_shl k (by omega), zb_or, bitsF, h8]; rfl
  refine AW.go (bs := b_Web_ringBits) [4] 60 t_Web_ringBits ?_
  exact loop _ 0 _ _ rfl (by omega) rfl rfl
