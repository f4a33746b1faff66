/-! requests that are joined -/
def nearW (M : Od) (x y : Int) : Prop := y - (M.2.2 0 : Int) ≤ x ∧ x ≤ y + (M.2.2 0 : Int)
def Jcl (M : Od) (r : Nat) (day : Int) (S : Nat → Prop) : Prop := ∀ k, k < r → cj M k r day = true → (nearW M (M.2.1 5 k 5) day ∨ ∃ i, S i ∧ nearW M (M.2.1 5 k 5) (M.2.1 5 i 5)) → S k
/-- joined: in every set that holds those near to the day, or to one in it -/
def Jc (M : Od) (r : Nat) (day : Int) (k : Nat) : Prop := ∀ S, Jcl M r day S → S k
noncomputable def jm (M : Od) (r : Nat) (day : Int) : Nat := bitsF (fun k => @decide (Jc M r day k) (Classical.propDecidable _)) id r
theorem Jc.lt {M : Od} {r : Nat} {day : Int} {k : Nat} (h : Jc M r day k) : k < r ∧ cj M k r day = true := h (fun k => k < r ∧ cj M k r day = true) (fun k h1 h2 _ => ⟨h1, h2⟩)
theorem Jc.closed {M : Od} {r : Nat} {day : Int} : Jcl M r day (Jc M r day) := by
  intro k h1 h2 h3 S hS
  refine hS k h1 h2 ?_
  rcases h3 with h | ⟨i, h4, h5⟩
  · exact Or.inl h
  · exact Or.inr ⟨i, h4 S hS, h5⟩
theorem jm_test {M : Od} {r : Nat} {day : Int} {k : Nat} : (jm M r day).testBit k = true ↔ Jc M r day k := by
  unfold jm
  rw [bitsF_test]
  constructor
  · rintro ⟨i, h1, h2, h3⟩
    have : i = k := h3
    subst this
    exact @of_decide_eq_true _ (Classical.propDecidable _) h2
  · intro h
    exact ⟨k, h.lt.1, @decide_eq_true _ (Classical.propDecidable _) h, rfl⟩
theorem jm_eq {M : Od} {r : Nat} {day : Int} {m : Nat} (h1 : ∀ k, m.testBit k = true → Jc M r day k) (h2 : Jcl M r day (fun k => m.testBit k = true)) : m = jm M r day := by
  apply Nat.eq_of_testBit_eq
  intro i
  rw [Bool.eq_iff_iff, jm_test]
  exact ⟨h1 i, fun h => h _ h2⟩
theorem jm_lt (M : Od) (r : Nat) (day : Int) : jm M r day < 2 ^ r := bitsF_lt (fun k hk _ => hk)
theorem mask_lt {m r : Nat} (h : ∀ i, m.testBit i = true → i < r) : m < 2 ^ r := by
  apply Nat.lt_of_not_le
  intro hle
  obtain ⟨i, h1, h2⟩ := Nat.exists_ge_and_testBit_of_ge_two_pow hle
  exact absurd (h i h2) (by omega)
theorem cntF_add {P P' : Nat → Bool} {k : Nat} (hk : P k = false) (hp : ∀ i, P' i = (P i || decide (k = i))) : ∀ n, cntF P' n = if k < n then cntF P n + 1 else cntF P n
  | 0 => by simp [cntF]
  | n + 1 => by
    have ih := cntF_add hk hp n
    unfold cntF
    rw [hp n, ih]
    by_cases e : k = n
    · subst e
      simp [hk]
    · rw [decide_eq_false e, Bool.or_false]
      by_cases h1 : k < n
      · rw [if_pos h1, if_pos (by omega : k < n + 1)]
        split <;> omega
      · rw [if_neg h1, if_neg (show ¬ k < n + 1 by omega)]
theorem cntF_full {P : Nat → Bool} : ∀ {n : Nat}, n ≤ cntF P n → ∀ i, i < n → P i = true
  | 0, _, i, h => by omega
  | n + 1, h, i, hi => by
    have hl := cntF_le P n
    unfold cntF at h
    split at h
    · next hp =>
      rcases Nat.lt_or_ge i n with q | q
      · exact cntF_full (n := n) (by omega) i q
      · rw [show i = n by omega]; exact hp
    · omega
/-- what holds while the set grows -/
def jInv (M : Od) (r : Nat) (day : Int) (B : Nat) (fi la : Int) : Prop :=
  (∀ i, B.testBit i = true → Jc M r day i ∧ fi ≤ M.2.1 5 i 5 ∧ M.2.1 5 i 5 ≤ la) ∧ 0 ≤ fi ∧ fi ≤ day ∧ day ≤ la ∧ la ≤ 999 ∧
  ∀ x, fi - (M.2.2 0 : Int) ≤ x → x ≤ la + (M.2.2 0 : Int) → nearW M x day ∨ ∃ i, B.testBit i = true ∧ nearW M x (M.2.1 5 i 5)
def jIn (M : Od) (r : Nat) (day : Int) (B : Nat) (fi la : Int) (k : Nat) : Prop := cj M k r day = true → fi - (M.2.2 0 : Int) ≤ M.2.1 5 k 5 → M.2.1 5 k 5 ≤ la + (M.2.2 0 : Int) → B.testBit k = true
theorem jInv_end {M : Od} {r : Nat} {day : Int} {B : Nat} {fi la : Int} (h : jInv M r day B fi la) (hc : ∀ k, k < r → jIn M r day B fi la k) : B = jm M r day := by
  obtain ⟨h1, h2, h3, h4, h5, h6⟩ := h
  refine jm_eq (fun k hk => (h1 k hk).1) (fun k g1 g2 g3 => ?_)
  rcases g3 with g | ⟨i, gi, g⟩
  · exact hc k g1 g2 (by unfold nearW at g; omega) (by unfold nearW at g; omega)
  · have := h1 i gi
    exact hc k g1 g2 (by unfold nearW at g; omega) (by unfold nearW at g; omega)
def sp_joinedBits : Sp := spS 2 (fun f s t as K => ∃ (M : Od) (r : Nat) (day : Int), as = [.ref 0, .int (iI r), .int (iI day)] ∧ RS f s t M ∧ OKM M ∧ r < M.1 5 ∧ 0 ≤ day ∧ day ≤ 999 ∧ K (some (.long (lN (jm M r day)))))
theorem v_joinedBits (l : Launch) : z_V l 65 sp_joinedBits := by
  refine z_V.of (by decide +kernel) ?_
  rintro as σ K ⟨f, s, t, rfl, M, r, day, rfl, hR, hO, hr, y1, y2, hK⟩
  have hm := hR.max40 5 (by omega)
  have hw := hO.2.2.2.2.2.2.1
  have ht : t 0 = iI (M.2.2 0 : Int) := hR.2.2 0 (by omega)
  have outer : ∀ (n turn B : Nat) (fi la : Int) (g : Bool) (x3 : Int64) (x5 x6 x7 x8 : Int32) (v9 v10 v11 : Option Value), n = r - turn → turn ≤ r → x3 = lN B → x5 = iI fi → x6 = iI la → x7 = bI g → x8 = iI (turn : Int) → jInv M r day B fi la → (g = true → turn ≤ cntF B.testBit r) → (g = false → ∀ k, k < r → jIn M r day B fi la k) →
      AW l 65 2 0 0 4 none (fun r σ' => (σ' = wS f s t ∧ K r none) ∨ K r (some σ')) 14 [some (.ref 0), some (.int (iI r)), some (.int (iI day)), some (.long x3), none, some (.int x5), some (.int x6), some (.int x7), some (.int x8), v9, v10, v11] [] (wS f s t) 0 0 := by
    intro n
    induction n using Nat.strongRecOn with
    | ind n ih =>
      intro turn B fi la g x3 x5 x6 x7 x8 v9 v10 v11 hn htr e3 e5 e6 e7 e8 hI hcnt hg
      subst e3; subst e5; subst e6; subst e7; subst e8
      have inner : ∀ (q k B : Nat) (fi la : Int) (g : Bool) (x3 : Int64) (x5 x6 x7 x9 : Int32) (v10 v11 : Option Value), q = r - k → k ≤ r → x3 = lN B → x5 = iI fi → x6 = iI la → x7 = bI g → x9 = iI (k : Int) → turn < r → jInv M r day B fi la → turn ≤ cntF B.testBit r → (g = true → turn + 1 ≤ cntF B.testBit r) → (g = false → ∀ i, i < k → jIn M r day B fi la i) →
          AW l 65 2 0 0 4 none (fun r σ' => (σ' = wS f s t ∧ K r none) ∨ K r (some σ')) 31 [some (.ref 0), some (.int (iI r)), some (.int (iI day)), some (.long x3), none, some (.int x5), some (.int x6), some (.int x7), some (.int (iI (turn : Int))), some (.int x9), v10, v11] [] (wS f s t) 0 0 := by
        intro q
        induction q using Nat.strongRecOn with
        | ind q ihq =>
          intro k B fi la g x3 x5 x6 x7 x9 v10 v11 hq hkr e3 e5 e6 e7 e9 htl hI hcnt hg1 hg0
          subst e3; subst e5; subst e6; subst e7; subst e9
          have hI' := hI
          obtain ⟨i1, i2, i3, i4, i5, i6⟩ := hI'
          have hB : B < 2 ^ 62 := Nat.lt_of_lt_of_le (mask_lt (r := r) (fun i hi => (i1 i hi).1.lt.1)) (Nat.pow_le_pow_right (by decide) (by omega))
          refine AW.go (bs := b_State_joinedBits) [14, 31] 90 t_State_joinedBits ?_
          refine And.intro (fun h => ?_) (fun h => ?_)
          · rw [zc_ge (by omega) (by omega) (by omega) (by omega)] at h
            exact ih _ (by omega) (turn + 1) B fi la g _ _ _ _ _ _ _ _ rfl (by omega) rfl rfl rfl rfl (zn_inc turn) hI hg1 (fun e k' hk' => hg0 e k' (by omega))
          · rw [zc_ge (by omega) (by omega) (by omega) (by omega)] at h
            have hk : k < M.1 5 := by omega
            have c5 := hO.2.2.2.2.2.1 k hk
            have skip : ∀ (v10 v11 : Option Value), jIn M r day B fi la k → AW l 65 2 0 0 4 none (fun r σ' => (σ' = wS f s t ∧ K r none) ∨ K r (some σ')) 31 [some (.ref 0), some (.int (iI r)), some (.int (iI day)), some (.long (lN B)), none, some (.int (iI fi)), some (.int (iI la)), some (.int (bI g)), some (.int (iI (turn : Int))), some (.int (iI (k : Int) + z_nn 1 0)), v10, v11] [] (wS f s t) 0 0 := by
              intro v10 v11 hj
              refine ihq _ (by omega) (k + 1) B fi la g _ _ _ _ _ v10 v11 rfl (by omega) rfl rfl rfl rfl (zn_inc k) htl hI hcnt hg1 (fun e i hi => ?_)
              rcases Nat.lt_or_ge i k with e2 | e2
              · exact hg0 e i e2
              · rw [show i = k by omega]; exact hj
            refine ⟨_, v_cell l, by decide, f, s, t, rfl, M, 5, k, 5, rfl, hR, by omega, hk, by decide, ?_⟩
            refine And.intro (zn_in (by decide) (by omega)) ?_
            show _ ∧ _
            rw [zn_cl (by omega), ht, iI_sub]
            refine And.intro (fun h3 => ?_) (fun h3 => ?_)
            · rw [zc_lt (by omega) (by omega) (by omega) (by omega)] at h3
              refine And.intro (fun _ => skip _ _ (fun _ q1 _ => by omega)) (fun q => absurd (show z_nn 0 0 = 0 by decide) q)
            · rw [zc_lt (by omega) (by omega) (by omega) (by omega)] at h3
              refine And.intro (zn_in (by decide) (by omega)) ?_
              show _ ∧ _
              rw [zn_cl (by omega), ht, iI_add]
              refine And.intro (fun h4 => ?_) (fun h4 => ?_)
              · rw [zc_gt (by omega) (by omega) (by omega) (by omega)] at h4
                refine And.intro (fun _ => skip _ _ (fun _ _ q2 => by omega)) (fun q => absurd (show z_nn 0 0 = 0 by decide) q)
              · rw [zc_gt (by omega) (by omega) (by omega) (by omega)] at h4
                refine And.intro (fun q => absurd q (show ¬ z_nn 1 0 = 0 by decide)) (fun _ => ?_)
                show _ ∧ _
                rw [show (lN (1 : Fin 2).val) = lN 1 from rfl, show (lN (0 : Fin 2).val) = lN 0 from rfl, zl_bit hB (by omega)]
                refine And.intro (fun h5 => ?_) (fun h5 => ?_)
                · rw [zl_ne0] at h5
                  exact skip _ _ (fun _ _ _ => h5)
                · rw [zl_ne0] at h5
                  have h5' : B.testBit k = false := by simpa using h5
                  refine ⟨_, v_canJoin l, by decide, f, s, t, rfl, M, k, r, day, rfl, hR, hO, hk, hr, ⟨by omega, by omega⟩, ?_⟩
                  refine And.intro (fun h6 => ?_) (fun h6 => ?_)
                  · rw [zc_beq] at h6
                    exact skip _ _ (fun q _ _ => by rw [h6] at q; cases q)
                  · rw [zc_beq] at h6
                    have h6' : cj M k r day = true := by simpa using h6
                    have hJ : Jc M r day k := Jc.closed k (by omega) h6' (by
                      rcases i6 (M.2.1 5 k 5) (by omega) (by omega) with q | ⟨i, q1, q2⟩
                      · exact Or.inl q
                      · exact Or.inr ⟨i, (i1 i q1).1, q2⟩)
                    have hc := cntF_add (P := B.testBit) (P' := (B ||| 2 ^ k).testBit) h5' (fun i => zb_test B k i) r
                    rw [if_pos (by omega)] at hc
                    refine ihq _ (by omega) (k + 1) (B ||| 2 ^ k) (min fi (M.2.1 5 k 5)) (max la (M.2.1 5 k 5)) true _ _ _ _ _ _ _ rfl (by omega) ?_ (min_iI (by omega) (by omega) (by omega) (by omega)) (max_iI (by omega) (by omega) (by omega) (by omega)) rfl (zn_inc k) htl ?_ (by omega) (fun _ => by omega) (fun q => by cases q)
                    · show lN B ||| lN 1 <<< ((iI (k : Int)).toInt64 &&& 63) = _
                      rw [zl_shl k (by omega), zl_or (by omega) (by
                        have : 2 ^ k < 2 ^ 62 := Nat.pow_lt_pow_right (by decide) (by omega)
                        omega)]
                    · refine ⟨fun i hi => ?_, by omega, by omega, by omega, by omega, fun x a b => ?_⟩
                      · rw [zb_test, Bool.or_eq_true, decide_eq_true_iff] at hi
                        rcases hi with hi | hi
                        · have := i1 i hi
                          exact ⟨this.1, by omega, by omega⟩
                        · subst hi
                          exact ⟨hJ, by omega, by omega⟩
                      · have old : ∀ x, (nearW M x day ∨ ∃ i, B.testBit i = true ∧ nearW M x (M.2.1 5 i 5)) → nearW M x day ∨ ∃ i, (B ||| 2 ^ k).testBit i = true ∧ nearW M x (M.2.1 5 i 5) := by
                          rintro x (q | ⟨i, q1, q2⟩)
                          · exact Or.inl q
                          · exact Or.inr ⟨i, by rw [zb_test, q1]; rfl, q2⟩
                        have new : nearW M x (M.2.1 5 k 5) → nearW M x day ∨ ∃ i, (B ||| 2 ^ k).testBit i = true ∧ nearW M x (M.2.1 5 i 5) := fun q => Or.inr ⟨k, by rw [zb_test, decide_eq_true rfl, Bool.or_true], q⟩
                        by_cases g1 : fi - (M.2.2 0 : Int) ≤ x
                        · by_cases g2 : x ≤ la + (M.2.2 0 : Int)
                          · exact old x (i6 x g1 g2)
                          · exact new ⟨by omega, by omega⟩
                        · exact new ⟨by omega, by omega⟩
      obtain ⟨j1, j2, j3, j4, j5, j6⟩ := id hI
      have full : turn = r → B = jm M r day := by
        intro e
        cases g with
        | false => exact jInv_end hI (hg rfl)
        | true => exact jInv_end hI (fun k hk _ _ _ => cntF_full (by have := hcnt rfl; omega) k hk)
      refine AW.go (bs := b_State_joinedBits) [14, 31] 90 t_State_joinedBits ?_
      refine And.intro (fun h => ?_) (fun h => ?_)
      · rw [zc_ge (by omega) (by omega) (by omega) (by omega)] at h
        refine Or.inl ⟨rfl, ?_⟩
        rw [full (by omega)]
        exact hK
      · rw [zc_ge (by omega) (by omega) (by omega) (by omega)] at h
        refine And.intro (fun h2 => ?_) (fun h2 => ?_)
        · rw [zc_beq] at h2
          refine Or.inl ⟨rfl, ?_⟩
          rw [jInv_end hI (hg h2)]
          exact hK
        · rw [zc_beq] at h2
          have h2' : g = true := by simpa using h2
          exact inner _ 0 B fi la false _ _ _ _ _ _ _ rfl (by omega) rfl rfl rfl rfl rfl (by omega) hI (hcnt h2') (fun q => by cases q) (fun _ i hi => by omega)
  refine AW.go (bs := b_State_joinedBits) [14, 31] 90 t_State_joinedBits ?_
  exact outer _ 0 0 day day true _ _ _ _ _ _ _ _ rfl (by omega) rfl rfl rfl rfl rfl ⟨fun i hi => by simp at hi, y1, Int.le_refl _, Int.le_refl _, y2, fun x a b => Or.inl ⟨a, b⟩⟩ (fun _ => Nat.zero_le _) (fun h => by cases h)
