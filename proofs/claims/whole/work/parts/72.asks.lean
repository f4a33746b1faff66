/-! the model: who decides -/
theorem brB_test {M : Od} (hO : OKM M) (m : Mt) (y : Int) {p : Nat} (hp : p < 16) : (brB M m y).testBit p = (awayP M (mA m) (mL m) p y || foeP M (mV m) p) := by
  unfold brB
  rw [Nat.testBit_or, awB_test hO m y hp, foeM_test hO]
theorem askL_mono {M : Od} {day : Int} {rec : Nat → Int → Nat → Nat × Option (Int × List Nat)} (hr : ∀ p w A i, A.testBit i = true → (rec p w A).1.testBit i = true) (p : Nat) (w : Int) : ∀ (q k A i : Nat), A.testBit i = true → (askL M day rec p w q k A).1.testBit i = true := by
  intro q
  induction q with
  | zero => intro k A i h; exact h
  | succ q ih =>
    intro k A i h
    unfold askL
    split
    · have g := hr (tk M k) (min w (M.2.1 2 k 4)) A i h
      split
      · next A' x L e => rw [e] at g; exact g
      · next A' e => rw [e] at g; exact ih _ _ _ g
    · exact ih _ _ _ h
theorem askF_mono {M : Od} {bar : Nat} {ak day : Int} : ∀ (n p : Nat) (w : Int) (A i : Nat), A.testBit i = true → (askF M bar ak day n p w A).1.testBit i = true := by
  intro n
  induction n with
  | zero => intro p w A i h; exact h
  | succ n ih =>
    intro p w A i h
    have h2 : (A ||| 2 ^ p).testBit i = true := by rw [zb_test, h]; rfl
    unfold askF
    split
    · exact h2
    · split
      · exact h2
      · exact askL_mono ih _ _ _ _ _ _ h2
def sp_masks (n : Nat) : Sp := (10 + n, 0, 0, pMd, fun as σ K => ∃ (now was kept isk ln sp ls ld tb rd : Nat → Int32) (und gon lef ak vn dy asd lma lim rea sts apr tz spo wro num nuA stl spe wan fou : Int32) (M : Od) (m : Mt) (y w : Int) (p A lv : Nat), as = [.ref 0, .int (iI p), .int (iI w)] ∧ σ = (wMd now was kept isk ln sp ls ld tb rd und (iI (mA m)) (iI (mL m)) (iI (mP m)) (iI (mV m)) (iI y) (iI A) (iI lv) lim rea sts apr tz spo wro num nuA stl spe wan fou) ∧ RM now M ∧ OKM M ∧ mOK m ∧ ir y ∧ p < 16 ∧ 0 ≤ w ∧ w ≤ 9999 ∧ A < 65536 ∧ A.testBit p = false ∧ lv ≤ cntF A.testBit 16 ∧ lv + n = 16 ∧
  ∀ ln' lma' lim', (∀ i, i < lv → ln' i = ln i) → (∀ x L, (askF M (brB M m y) (mP m) y n p w A).2 = some (x, L) → lim' = iI x ∧ lma' = iI (lv + L.length : Nat) ∧ ∀ (i e : Nat), L[i]? = some e → ln' (lv + i) = iI (e : Int)) → ((askF M (brB M m y) (mP m) y n p w A).2 = none → lma' = iI lv) →
    K (some (.int (bI (askF M (brB M m y) (mP m) y n p w A).2.isSome))) (some (wMd now was kept isk ln' sp ls ld tb rd und (iI (mA m)) (iI (mL m)) (iI (mP m)) (iI (mV m)) (iI y) (iI ((askF M (brB M m y) (mP m) y n p w A).1 : Nat)) lma' lim' rea sts apr tz spo wro num nuA stl spe wan fou)))
set_option maxRecDepth 20000 in
theorem v_masks (l : Launch) : ∀ n, z_V l 167 (sp_masks n) := by
  intro n
  induction n with
  | zero =>
    refine z_V.ofP (by decide +kernel) ?_
    rintro as σ K Post ⟨now, was, kept, isk, ln, sp, ls, ld, tb, rd, und, gon, lef, ak, vn, dy, asd, lma, lim, rea, sts, apr, tz, spo, wro, num, nuA, stl, spe, wan, fou, M, m, y, w, p, A, lv, rfl, rfl, hN, hO, hm, hy, hp, h0, h1, hA, hAp, hlv, hn, hK⟩ hP1 hP0
    exfalso
    have h := cntF_lt (P := A.testBit) (P' := fun _ => true) (fun _ _ => rfl) hp hAp rfl
    have h2 := cntF_le (fun _ => true) 16
    omega
  | succ n ihn =>
    refine z_V.ofP (by decide +kernel) ?_
    rintro as σ K Post ⟨now, was, kept, isk, ln, sp, ls, ld, tb, rd, und, gon, lef, ak, vn, dy, asd, lma, lim, rea, sts, apr, tz, spo, wro, num, nuA, stl, spe, wan, fou, M, m, y, w, p, A, lv, rfl, rfl, hN, hO, hm, hy, hp, h0, h1, hA, hAp, hlv, hn, hK⟩ hP1 hP0
    obtain ⟨m1, m2, m3, m4, m5, m6⟩ := id hm
    have hx := hO.mx 2 (by omega)
    have hA' := zb_lt hA hp
    have hcnt : lv + 1 ≤ cntF (A ||| 2 ^ p).testBit 16 := by
      have := cntF_add (P := A.testBit) (P' := (A ||| 2 ^ p).testBit) hAp (fun i => zb_test A p i) 16
      rw [if_pos hp] at this
      omega
    have ea : iI (A : Int) ||| z_nn 1 0 <<< (iI (p : Int) &&& 31) = iI ((A ||| 2 ^ p : Nat) : Int) := by rw [show z_nn 1 0 = iI 1 from rfl, zb_shl p (by omega), zb_or]
    have hlv16 : lv < 16 := by omega
    have loop : ∀ (q k B : Nat) (x b : Int32) (ln1 : Nat → Int32) (lim1 : Int32) (v4 : Option Value), q = M.1 2 - k → k ≤ M.1 2 → x = iI (k : Int) → b = iI (B : Int) → B < 65536 → lv + 1 ≤ cntF B.testBit 16 → (∀ i, i < lv → ln1 i = ln i) → ln1 lv = iI (p : Int) → askL M y (askF M (brB M m y) (mP m) y n) p w (M.1 2 - k) k B = askF M (brB M m y) (mP m) y (n + 1) p w A →
        AW l 167 (10 + (n + 1)) 0 0 11 none Post 71 [some (.ref 0), some (.int (iI p)), some (.int (iI w)), some (.int x), v4] [] (wMd now was kept isk ln1 sp ls ld tb rd und (iI (mA m)) (iI (mL m)) (iI (mP m)) (iI (mV m)) (iI y) b (iI (lv + 1 : Nat)) lim1 rea sts apr tz spo wro num nuA stl spe wan fou) 0 0 := by
      intro q
      induction q using Nat.strongRecOn with
      | ind q ihq =>
        intro k B x b ln1 lim1 v4 hq hk0 ex eb hB hBc hl1 hl2 hfin
        subst ex; subst eb
        refine AW.go (bs := b_Mod_asks) [71, 167] 100 t_Mod_asks ?_
        refine ⟨_, v_mmany l, by show 0 < _; omega, _, _, _, _, _, _, _, _, _, _, _, _, _, _, _, _, _, _, _, _, _, _, _, _, _, _, _, _, _, _, _, M, rfl, hN, hO, 2, rfl, by omega, ?_⟩
        refine And.intro (fun h => ?_) (fun h => ?_)
        · rw [zc_ge (by omega) (by omega) (by omega) (by omega)] at h
          rw [show M.1 2 - k = 0 by omega, askL] at hfin
          rw [← hfin] at hK
          have e1 : iI ((lv + 1 : Nat) : Int) - z_nn 1 0 = iI (lv : Int) := by rw [zn_i, iI_sub]; congr 1; omega
          refine And.intro (Or.inl rfl) (hP1 _ _ (hK ln1 _ lim1 hl1 (fun x L h => by cases h) (fun _ => e1)))
        rw [zc_ge (by omega) (by omega) (by omega) (by omega)] at h
        have hk : k < M.1 2 := by omega
        have c := hO.2.2.1 k hk
        have ht := hO.tk hk
        rw [show M.1 2 - k = (M.1 2 - (k + 1)) + 1 by omega, askL] at hfin
        have skip : ∀ (v4 : Option Value), ¬ (M.2.1 2 k 0 = (p : Int) ∧ cov M 2 k y = true ∧ B.testBit (tk M k) = false) → AW l 167 (10 + (n + 1)) 0 0 11 none Post 71 [some (.ref 0), some (.int (iI p)), some (.int (iI w)), some (.int (iI (k : Int) + z_nn 1 0)), v4] [] (wMd now was kept isk ln1 sp ls ld tb rd und (iI (mA m)) (iI (mL m)) (iI (mP m)) (iI (mV m)) (iI y) (iI (B : Int)) (iI (lv + 1 : Nat)) lim1 rea sts apr tz spo wro num nuA stl spe wan fou) 0 0 := by
          intro v4 hno
          rw [if_neg hno] at hfin
          exact ihq _ (by omega) (k + 1) B _ _ ln1 lim1 v4 rfl (by omega) (zn_inc k) rfl hB hBc hl1 hl2 hfin
        refine ⟨_, v_mentryOf l, by show 1 < _; omega, _, _, _, _, _, _, _, _, _, _, _, _, _, _, _, _, _, _, _, _, _, _, _, _, _, _, _, _, _, _, _, M, rfl, hN, hO, 2, k, 0, rfl, by omega, hk, by decide, ?_⟩
        refine And.intro (fun h3 => ?_) (fun h3 => ?_)
        · rw [zc_ne (by omega) (by omega) (by omega) (by omega)] at h3
          exact skip _ (fun q => h3 q.1)
        rw [zc_ne (by omega) (by omega) (by omega) (by omega), Classical.not_not] at h3
        refine ⟨_, v_mentryOf l, by show 1 < _; omega, _, _, _, _, _, _, _, _, _, _, _, _, _, _, _, _, _, _, _, _, _, _, _, _, _, _, _, _, _, _, _, M, rfl, hN, hO, 2, k, 2, rfl, by omega, hk, by decide, ?_⟩
        refine ⟨_, v_mentryOf l, by show 1 < _; omega, _, _, _, _, _, _, _, _, _, _, _, _, _, _, _, _, _, _, _, _, _, _, _, _, _, _, _, _, _, _, _, M, rfl, hN, hO, 2, k, 3, rfl, by omega, hk, by decide, ?_⟩
        refine ⟨_, v_in l, by show 0 < _; omega, rfl, y, M.2.1 2 k 2, M.2.1 2 k 3, _, _, _, rfl, l_i hy.1 hy.2, l_i (by omega) (by omega), l_i (by omega) (by omega), ⟨by have := hy.1; omega, by have := hy.2; omega⟩, ⟨by omega, by omega⟩, ⟨by omega, by omega⟩, ?_⟩
        have ec : decide (M.2.1 2 k 2 ≤ y ∧ y ≤ M.2.1 2 k 3) = cov M 2 k y := by
          unfold cov; rw [Bool.decide_and]; rfl
        rw [ec]
        refine And.intro (fun h4 => ?_) (fun h4 => ?_)
        · rw [zc_beq] at h4
          exact skip _ (fun q => by rw [h4] at q; cases q.2.1)
        rw [zc_beq, Bool.not_eq_false] at h4
        refine ⟨_, v_mentryOf l, by show 1 < _; omega, _, _, _, _, _, _, _, _, _, _, _, _, _, _, _, _, _, _, _, _, _, _, _, _, _, _, _, _, _, _, _, M, rfl, hN, hO, 2, k, 1, rfl, by omega, hk, by decide, ?_⟩
        show ∃ sp : Sp, _
        rw [ht.1]
        refine ⟨_, v_mhas l, by show 0 < _; omega, rfl, B, tk M k, rfl, by omega, by omega, ?_⟩
        refine And.symm (And.intro (fun h5 => ?_) (fun h5 => ?_))
        · rw [zc_beq, Bool.not_eq_false] at h5
          exact skip _ (fun q => by rw [h5] at q; cases q.2.2)
        rw [zc_beq] at h5
        rw [if_pos ⟨h3, h4, h5⟩] at hfin
        refine ⟨_, v_mentryOf l, by show 1 < _; omega, _, _, _, _, _, _, _, _, _, _, _, _, _, _, _, _, _, _, _, _, _, _, _, _, _, _, _, _, _, _, _, M, rfl, hN, hO, 2, k, 4, rfl, by omega, hk, by decide, ?_⟩
        refine ⟨_, v_mentryOf l, by show 1 < _; omega, _, _, _, _, _, _, _, _, _, _, _, _, _, _, _, _, _, _, _, _, _, _, _, _, _, _, _, _, _, _, _, M, rfl, hN, hO, 2, k, 1, rfl, by omega, hk, by decide, ?_⟩
        have hok := askF_ok hO (bar := brB M m y) (ak := mP m) (day := y) n (tk M k) (min w (M.2.1 2 k 4)) B ht.2 (by omega) (by omega) hB
        have call : ∀ z : Int32, z = iI (min w (M.2.1 2 k 4)) → AW l 167 (10 + (n + 1)) 0 0 11 none Post 167 [some (.ref 0), some (.int (iI p)), some (.int (iI w)), some (.int (iI (k : Int))), some (.int (iI (M.2.1 2 k 4)))] [.int z, .int (iI (M.2.1 2 k 1)), .ref 0] (wMd now was kept isk ln1 sp ls ld tb rd und (iI (mA m)) (iI (mL m)) (iI (mP m)) (iI (mV m)) (iI y) (iI (B : Int)) (iI (lv + 1 : Nat)) lim1 rea sts apr tz spo wro num nuA stl spe wan fou) 0 0 := by
          intro z hz
          subst hz
          rw [ht.1]
          refine AW.go (bs := b_Mod_asks) [71] 100 t_Mod_asks ?_
          refine ⟨_, ihn, by show 10 + n < 10 + (n + 1); omega, _, _, _, _, _, _, _, _, _, _, _, 0, 0, 0, 0, 0, 0, 0, _, _, _, _, _, _, _, _, _, _, _, _, _, M, m, y, min w (M.2.1 2 k 4), tk M k, B, lv + 1, rfl, rfl, hN, hO, hm, hy, ht.2, by omega, by omega, hB, h5, hBc, by omega, fun ln2 lma2 lim2 g1 g2 g3 => ?_⟩
          have hmn := askF_mono (M := M) (bar := brB M m y) (ak := mP m) (day := y) n (tk M k) (min w (M.2.1 2 k 4)) B
          cases hr : askF M (brB M m y) (mP m) y n (tk M k) (min w (M.2.1 2 k 4)) B with
          | mk B' r =>
            rw [hr] at hfin hok g2 g3 hmn
            cases r with
            | none =>
              have g3' := g3 rfl
              subst g3'
              refine And.intro (fun _ => ?_) (fun h => absurd zt_eqf h)
              exact ihq _ (by omega) (k + 1) B' _ _ ln2 lim2 _ rfl (by omega) (zn_inc k) rfl hok.1 (Nat.le_trans hBc (cntF_mono (fun i hi => hmn i hi) 16)) (fun i hi => by rw [g1 i (by omega)]; exact hl1 i hi) (by rw [g1 lv (by omega)]; exact hl2) hfin
            | some z =>
              obtain ⟨x, L⟩ := z
              refine And.intro (fun h => absurd h zt_neqt) (fun _ => ?_)
              rw [← hfin] at hK
              obtain ⟨q1, q2, q3⟩ := g2 x L rfl
              refine And.intro (Or.inr rfl) (hP1 _ _ (hK ln2 _ _ (fun i hi => by rw [g1 i (by omega)]; exact hl1 i hi) (fun x' L' e => ?_) (fun e => by cases e)))
              cases e
              refine ⟨q1, by rw [q2]; congr 1; simp only [List.length_cons]; omega, fun i e hi => ?_⟩
              cases i with
              | zero =>
                have : p = e := by simpa using hi
                rw [Nat.add_zero, g1 lv (by omega), hl2, this]
              | succ i =>
                rw [show lv + (i + 1) = lv + 1 + i by omega]
                exact q3 i e (by simpa using hi)
        refine And.intro (fun h6 => ?_) (fun h6 => ?_)
        · rw [zc_ge (by omega) (by omega) (by omega) (by omega)] at h6
          exact call _ (by congr 1; omega)
        · rw [zc_ge (by omega) (by omega) (by omega) (by omega)] at h6
          exact call _ (by congr 1; omega)
    have hbt := brB_test hO m y hp
    refine AW.go (bs := b_Mod_asks) [71] 100 t_Mod_asks ?_
    show _ ∧ _
    rw [ea]
    refine And.symm (And.intro (fun h => ?_) (fun h => ?_))
    · rw [zc_ne (by omega) (by omega) m1.1 m1.2, Classical.not_not] at h
      rw [askF, if_pos h] at hK
      exact And.intro (Or.inl rfl) (hP1 _ _ (hK ln _ lim (fun _ _ => rfl) (fun x L e => by cases e) (fun _ => rfl)))
    rw [zc_ne (by omega) (by omega) m1.1 m1.2] at h
    refine And.intro (zN_in (by omega) (by omega)) ?_
    show ∃ sp : Sp, _
    rw [zN_cl (by omega), zn_inc]
    have hpre : ∀ i, i < lv → upd ln lv (iI (p : Int)) i = ln i := fun i hi => by unfold upd; rw [if_neg (by omega)]
    have hat : upd ln lv (iI (p : Int)) lv = iI (p : Int) := by unfold upd; rw [if_pos rfl]
    have tolp : (brB M m y).testBit p = true → AW l 167 (10 + (n + 1)) 0 0 11 none Post 71 [some (.ref 0), some (.int (iI p)), some (.int (iI w)), some (.int (z_nn 0 0)), none] [] (wMd now was kept isk (upd ln lv (iI (p : Int))) sp ls ld tb rd und (iI (mA m)) (iI (mL m)) (iI (mP m)) (iI (mV m)) (iI y) (iI ((A ||| 2 ^ p : Nat) : Int)) (iI (lv + 1 : Nat)) lim rea sts apr tz spo wro num nuA stl spe wan fou) 0 0 := by
      intro hb
      refine loop _ 0 (A ||| 2 ^ p) _ _ _ lim _ rfl (by omega) rfl rfl hA' hcnt hpre hat ?_
      rw [askF, if_neg h, if_neg (by rw [hb]; decide), Nat.sub_zero]
    refine ⟨_, v_misAway l, by show 2 < 10 + (n + 1); omega, _, _, _, _, _, _, _, _, _, _, _, _, _, _, _, _, _, _, _, _, _, _, _, _, _, _, _, _, _, _, _, M, rfl, hN, hO, mA m, mL m, (p : Int), y, rfl, rfl, rfl, m5, m6, ⟨by omega, by omega⟩, hy, ?_⟩
    refine And.intro (fun h2 => ?_) (fun h2 => ?_)
    · rw [zc_bne] at h2
      exact tolp (by rw [hbt, h2]; rfl)
    rw [zc_bne, Bool.not_eq_true] at h2
    refine ⟨_, v_misFoe l, by show 2 < 10 + (n + 1); omega, _, _, _, _, _, _, _, _, _, _, _, _, _, _, _, _, _, _, _, _, _, _, _, _, _, _, _, _, _, _, _, M, rfl, hN, hO, mV m, (p : Int), rfl, rfl, m2, ⟨by omega, by omega⟩, ?_⟩
    refine And.intro (fun h3 => ?_) (fun h3 => ?_)
    · rw [zc_bne] at h3
      exact tolp (by rw [hbt, h3, Bool.or_true])
    rw [zc_bne, Bool.not_eq_true] at h3
    rw [askF, if_neg h, if_pos (by rw [hbt, h2, h3]; rfl)] at hK
    refine And.intro (Or.inr rfl) (hP1 _ _ (hK _ _ _ hpre (fun x L e => ?_) (fun e => by cases e)))
    cases e
    refine ⟨rfl, rfl, fun i e hi => ?_⟩
    cases i with
    | zero => have : p = e := by simpa using hi
              rw [Nat.add_zero, hat, this]
    | succ i => simp at hi
def decI (r : Option (Int × List Nat)) : Int := match r with | some (_, L) => lastP L | none => -1
/-- what the model has behind a question -/
def mRes (M : Od) (m : Mt) (o : Nat) (y : Int) (ln : Nat → Int32) (lma lim rea : Int32) : Prop := (∀ x L, decF M m o y = some (x, L) → lim = iI x ∧ lma = iI L.length ∧ ∀ (i e : Nat), L[i]? = some e → ln i = iI (e : Int)) ∧ (decF M m o y = none → rea = iI (reaF M m o y))
def sp_mdecider : Sp := (30, 0, 0, pMd, fun as σ K => ∃ (now was kept isk ln sp ls ld tb rd : Nat → Int32) (und gon lef ak vn dy asd lma lim rea sts apr tz spo wro num nuA stl spe wan fou : Int32) (M : Od) (m : Mt) (o : Nat) (y : Int) (z : Int32), as = [.ref 0, .int (iI o), .int (iI y), .int z] ∧ z = iI (mK m) ∧ σ = (wMd now was kept isk ln sp ls ld tb rd und (iI (mA m)) (iI (mL m)) (iI (mP m)) (iI (mV m)) dy asd lma lim rea sts apr tz spo wro num nuA stl spe wan fou) ∧ RM now M ∧ OKM M ∧ mOK m ∧ o < M.1 4 ∧ ir y ∧
  ∀ ln' asd' lma' lim' rea', mRes M m o y ln' lma' lim' rea' → K (some (.int (iI (decI (decF M m o y))))) (some (wMd now was kept isk ln' sp ls ld tb rd und (iI (mA m)) (iI (mL m)) (iI (mP m)) (iI (mV m)) (iI y) asd' lma' lim' rea' sts apr tz spo wro num nuA stl spe wan fou)))
set_option maxRecDepth 20000 in
theorem v_mdecider (l : Launch) : z_V l 168 sp_mdecider := by
  refine z_V.ofP (by decide +kernel) ?_
  rintro as σ K Post ⟨now, was, kept, isk, ln, sp, ls, ld, tb, rd, und, gon, lef, ak, vn, dy, asd, lma, lim, rea, sts, apr, tz, spo, wro, num, nuA, stl, spe, wan, fou, M, m, o, y, z, rfl, rfl, rfl, hN, hO, hm, ho, hy, hK⟩ hP1 hP0
  obtain ⟨m1, m2, m3, m4, m5, m6⟩ := id hm
  have hx4 := hO.mx 4 (by omega)
  have hh := holder_rng hO o y
  refine AW.go (bs := b_Mod_decider) [92] 100 t_Mod_decider ?_
  refine ⟨_, v_mholderOf l, by decide, _, _, _, _, _, _, _, _, _, _, _, _, _, _, _, _, _, _, _, _, _, _, _, _, _, _, _, _, _, _, _, M, rfl, hN, hO, (o : Int), y, rfl, ⟨by omega, by omega⟩, hy, ?_⟩
  refine And.symm (And.intro (fun h => ?_) (fun h => ?_))
  · have h := (zc_eq (b := -1) (by omega) (by omega) (by omega) (by omega)).mp (Classical.not_not.mp h)
    have e1 : decF M m o y = none := by unfold decF; rw [if_pos h]
    have e2 : reaF M m o y = 2 := by unfold reaF; rw [if_pos h]
    unfold mRes at hK
    rw [e1, e2] at hK
    exact hP1 _ _ (hK _ _ _ _ _ ⟨fun x L e => (by cases e), fun _ => rfl⟩)
  have h := mt (zc_eq (a := holder M o y) (b := -1) (by omega) (by omega) (by omega) (by omega)).mpr (fun q => h q)
  obtain ⟨q, hq⟩ : ∃ q : Nat, holder M o y = (q : Int) := ⟨(holder M o y).toNat, by omega⟩
  have hq16 : q < 16 := by omega
  have hcl := (hO.2.2.2.2.1 o ho).2 (1 + (mK m).toNat) (by omega) (by omega)
  have hdec : decF M m o y = (askF M (brB M m y) (mP m) y 16 q (M.2.1 4 o (1 + (mK m).toNat)) 0).2 := by
    unfold decF
    rw [if_neg h, hq, Int.toNat_natCast]
    split
    · next e => rw [show (16 : Nat) = 15 + 1 from rfl, askF, if_pos e]
    · rfl
  have hrea : reaF M m o y = if holder M o y = mP m then 4 else if (awB M m y).testBit q then 3 else 5 := by
    unfold reaF; rw [if_neg h, hq, Int.toNat_natCast]
  refine ⟨_, v_mlimitOf l, by decide, _, _, _, _, _, _, _, _, _, _, _, _, _, _, _, _, _, _, _, _, _, _, _, _, _, _, _, _, _, _, _, M, rfl, hN, hO, o, (mK m).toNat, _, rfl, by congr 1; omega, ho, by omega, ?_⟩
  show ∃ sp : Sp, _
  rw [hq]
  refine ⟨_, v_masks l 16, by decide, _, _, _, _, _, _, _, _, _, _, _, 0, 0, 0, 0, 0, 0, 0, _, _, _, _, _, _, _, _, _, _, _, _, _, M, m, y, _, q, 0, 0, rfl, rfl, hN, hO, hm, hy, hq16, hcl.1, hcl.2, by omega, Nat.zero_testBit q, Nat.zero_le _, by omega, fun ln1 lma1 lim1 g1 g2 g3 => ?_⟩
  rw [← hdec] at g2 g3
  have hok := fun x L (e : decF M m o y = some (x, L)) => decF_ok hO hm ho e
  unfold mRes at hK
  rw [← hdec]
  cases hd : decF M m o y with
  | none =>
    rw [hd] at hK g3
    have g3' := g3 rfl
    subst g3'
    refine And.intro (fun _ => ?_) (fun h => absurd zt_eqf h)
    have fin : ∀ z : Int32, z = iI (reaF M m o y) → AW l 168 30 0 0 11 none Post 92 [some (.ref 0), some (.int (iI o)), some (.int (iI y)), some (.int (iI (mK m))), some (.int (iI (q : Int)))] [.int z, .ref 0] (wMd now was kept isk ln1 sp ls ld tb rd und (iI (mA m)) (iI (mL m)) (iI (mP m)) (iI (mV m)) (iI y) (iI ((askF M (brB M m y) (mP m) y 16 q (M.2.1 4 o (1 + (mK m).toNat)) 0).1 : Nat)) (iI ((0 : Nat) : Int)) lim1 rea sts apr tz spo wro num nuA stl spe wan fou) 0 0 := by
      intro z hz
      subst hz
      refine AW.go (bs := b_Mod_decider) [] 100 t_Mod_decider ?_
      exact hP1 _ _ (hK _ _ _ _ _ ⟨fun x L e => (by cases e), fun _ => rfl⟩)
    refine And.symm (And.intro (fun h2 => ?_) (fun h2 => ?_))
    · rw [zc_ne (by omega) (by omega) m1.1 m1.2, Classical.not_not] at h2
      exact fin _ (by rw [hrea, if_pos (by rw [hq]; exact h2)]; rfl)
    rw [zc_ne (by omega) (by omega) m1.1 m1.2] at h2
    refine ⟨_, v_misAway l, by decide, _, _, _, _, _, _, _, _, _, _, _, _, _, _, _, _, _, _, _, _, _, _, _, _, _, _, _, _, _, _, _, M, rfl, hN, hO, mA m, mL m, (q : Int), y, rfl, rfl, rfl, m5, m6, ⟨by omega, by omega⟩, hy, ?_⟩
    rw [← awB_test hO m y hq16]
    refine And.symm (And.intro (fun h3 => ?_) (fun h3 => ?_))
    · rw [zc_beq, Bool.not_eq_false] at h3
      exact fin _ (by rw [hrea, if_neg (by rw [hq]; exact h2), if_pos h3]; rfl)
    · rw [zc_beq] at h3
      exact fin _ (by rw [hrea, if_neg (by rw [hq]; exact h2), h3]; rfl)
  | some z =>
    obtain ⟨x, L⟩ := z
    rw [hd] at hK
    obtain ⟨o1, o2, o3, o4, o5⟩ := hok x L hd
    obtain ⟨q1, q2, q3⟩ := g2 x L hd
    subst q1; subst q2
    refine And.intro (fun h => absurd h zt_neqt) (fun _ => ?_)
    have el : iI ((0 + L.length : Nat) : Int) - z_nn 1 0 = iI ((L.length - 1 : Nat) : Int) := by rw [zn_i, iI_sub]; congr 1; omega
    show _ ∧ _
    rw [el]
    refine And.intro (zN_in (by omega) (by omega)) ?_
    show Post _ _
    have e2 := q3 (L.length - 1) _ (getLast_at o3)
    rw [Nat.zero_add] at e2
    rw [zN_cl (by omega), e2]
    refine hP1 _ _ (hK _ _ _ _ _ ⟨fun x' L' e => ?_, fun e => (by cases e)⟩)
    cases e
    exact ⟨rfl, by rw [Nat.zero_add], fun i e hi => by have := q3 i e hi; rw [Nat.zero_add] at this; exact this⟩
