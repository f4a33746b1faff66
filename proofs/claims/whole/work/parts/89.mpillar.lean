/-! someone who does no step of a route leaves it by being away -/
theorem lastP_cons {p : Nat} {L : List Nat} (h : L ≠ []) : lastP (p :: L) = lastP L := by
  unfold lastP; rw [List.getLast?_cons_of_ne_nil h]
theorem askL_abs {M : Od} {y : Int} {p : Nat} {r1 r2 : Nat → Int → Nat → Nat × Option (Int × List Nat)} (hr : ∀ q w A, (∀ x L, (r1 q w A).2 = some (x, L) → L ≠ [] ∧ lastP L ≠ p) → r2 q w A = r1 q w A) (hn : ∀ q w A x L, (r1 q w A).2 = some (x, L) → L ≠ []) (g : Nat) (w : Int) : ∀ (q k A : Nat), (∀ x L, (askL M y r1 g w q k A).2 = some (x, L) → lastP L ≠ p) → askL M y r2 g w q k A = askL M y r1 g w q k A := by
  intro q
  induction q with
  | zero => intro k A _; rfl
  | succ q ih =>
    intro k A h
    unfold askL at h ⊢
    split
    · next hc =>
      rw [if_pos hc] at h
      cases h1 : r1 (tk M k) (min w (M.2.1 2 k 4)) A with
      | mk A1 o =>
        rw [h1] at h
        have hne := hn (tk M k) (min w (M.2.1 2 k 4)) A
        rw [h1] at hne
        have e := hr (tk M k) (min w (M.2.1 2 k 4)) A
        rw [h1] at e
        cases o with
        | none =>
          rw [e (fun x L q => by cases q)]
          exact ih _ _ h
        | some z =>
          obtain ⟨x, L⟩ := z
          rw [e (fun x' L' q => by cases q; exact ⟨hne x L rfl, by have := h x (g :: L) rfl; rw [lastP_cons (hne x L rfl)] at this; exact this⟩)]
    · next hc =>
      rw [if_neg hc] at h
      exact ih _ _ h
theorem askL_ne {M : Od} {y : Int} {rec : Nat → Int → Nat → Nat × Option (Int × List Nat)} (g : Nat) (w : Int) : ∀ (q k A : Nat) x L, (askL M y rec g w q k A).2 = some (x, L) → L ≠ [] := by
  intro q
  induction q with
  | zero => intro k A x L h; cases h
  | succ q ih =>
    intro k A x L h
    unfold askL at h
    split at h
    · split at h
      · cases h; simp
      · exact ih _ _ x L h
    · exact ih _ _ x L h
theorem askF_ne {M : Od} {bar : Nat} {ak y : Int} : ∀ (n q : Nat) (w : Int) (A : Nat) x L, (askF M bar ak y n q w A).2 = some (x, L) → L ≠ []
  | 0, q, w, A, x, L, h => by cases h
  | n + 1, q, w, A, x, L, h => by
    unfold askF at h
    split at h
    · cases h
    · split at h
      · cases h; simp
      · exact askL_ne _ _ _ _ _ x L h
theorem askF_abs {M : Od} {bar : Nat} {ak y : Int} {p : Nat} : ∀ (n q : Nat) (w : Int) (A : Nat), (∀ x L, (askF M bar ak y n q w A).2 = some (x, L) → lastP L ≠ p) → askF M (bar ||| 2 ^ p) ak y n q w A = askF M bar ak y n q w A := by
  intro n
  induction n with
  | zero => intro q w A _; rfl
  | succ n ih =>
    intro q w A h
    unfold askF at h ⊢
    split
    · rfl
    · next h1 =>
      rw [if_neg h1] at h
      by_cases hb : bar.testBit q = false
      · rw [if_pos hb] at h ⊢
        have hq : q ≠ p := fun e => by have := h w [q] rfl; rw [e] at this; exact this rfl
        rw [if_pos (by rw [zb_test, hb, decide_eq_false (fun e => hq e.symm)]; rfl)]
      · rw [if_neg hb] at h ⊢
        have hb' : (bar ||| 2 ^ p).testBit q = true := by rw [zb_test, show bar.testBit q = true by simpa using hb]; rfl
        rw [if_neg (by rw [hb']; decide)]
        exact askL_abs (fun q w A hh => ih q w A (fun x L e => (hh x L e).2)) (fun q w A x L e => askF_ne n q w A x L e) _ _ _ _ _ h
theorem brB_abs {M : Od} {r p : Nat} (hp : p < 16) (y : Int) : brB M (mtA M r p) y = brB M (mtR M r) y ||| 2 ^ p := by
  unfold brB awB
  have e1 : bitI (mA (mtA M r p)) = 2 ^ p := by
    show bitI (p : Int) = _
    unfold bitI; rw [if_pos (by omega), Int.toNat_natCast]
  have e2 : bitI (mA (mtR M r)) = 0 := by
    show bitI (-1) = 0
    unfold bitI; rw [if_neg (by omega)]
  rw [e1, e2, Nat.or_zero]
  show (awayM M (-1) y (M.1 1) ||| 2 ^ p) ||| foeM M (M.2.1 5 r 2) (M.1 3) = (awayM M (-1) y (M.1 1) ||| foeM M (M.2.1 5 r 2) (M.1 3)) ||| 2 ^ p
  rw [Nat.or_assoc, Nat.or_comm (2 ^ p), ← Nat.or_assoc]
theorem lC_one (e : SE) (w : Int) : lC [e] w 4 = sC e w 4 := rfl
theorem decF_abs {M : Od} {r p : Nat} (hp : p < 16) (o : Nat) (y : Int) (h : ∀ x L, decF M (mtR M r) o y = some (x, L) → lastP L ≠ p) : decF M (mtA M r p) o y = decF M (mtR M r) o y := by
  have e1 : mP (mtA M r p) = mP (mtR M r) := rfl
  have e2 : mK (mtA M r p) = mK (mtR M r) := rfl
  unfold decF at h ⊢
  rw [e1, e2, brB_abs hp]
  by_cases h1 : holder M o y = -1
  · rw [if_pos h1, if_pos h1]
  · rw [if_neg h1] at h
    rw [if_neg h1, if_neg h1]
    by_cases h2 : holder M o y = mP (mtR M r)
    · rw [if_pos h2, if_pos h2]
    · rw [if_neg h2] at h
      rw [if_neg h2, if_neg h2]
      have := askF_abs (M := M) (bar := brB M (mtR M r) y) (ak := mP (mtR M r)) (y := y) (p := p) 16 (holder M o y).toNat (M.2.1 4 o (1 + (mK (mtR M r)).toNat)) 0 h
      rw [this]
theorem dayF_s {M : Od} {m : Mt} (o n : Nat) (y : Int) : dayF M m o (n + 1) y = if (decF M m o y).isSome then y else dayF M m o n (y + 1) := by rw [dayF]
theorem dayF_abs {M : Od} {r p : Nat} (hp : p < 16) (o : Nat) : ∀ (n : Nat) (y : Int), (∀ x L, decF M (mtR M r) o (dayF M (mtR M r) o n y) = some (x, L) → lastP L ≠ p) → dayF M (mtA M r p) o n y = dayF M (mtR M r) o n y := by
  intro n
  induction n with
  | zero => intro y _; rw [dayF, dayF]
  | succ n ih =>
    intro y h
    rw [dayF_s] at h
    rw [dayF_s, dayF_s]
    cases hd : decF M (mtR M r) o y with
    | none =>
      rw [hd] at h
      rw [if_neg (by simp)] at h
      rw [decF_abs hp o y (fun x L e => by rw [hd] at e; cases e), hd, if_neg (by simp), if_neg (by simp)]
      exact ih (y + 1) h
    | some z =>
      rw [if_pos (by rw [hd]; rfl)] at h
      rw [decF_abs hp o y h, hd, if_pos (by rfl), if_pos (by rfl)]
theorem stepF_abs {M : Od} {r p : Nat} (hp : p < 16) (o : Nat) (d w : Int) (h : sC (stepF M (mtR M r) o d) w 2 ≠ p) : ∃ e : Int, stepF M (mtA M r p) o d = ((stepF M (mtR M r) o d).1, (stepF M (mtR M r) o d).2.1, (stepF M (mtR M r) o d).2.2.1, e) ∧ 2 ≤ e := by
  have hl : ∀ x L, decF M (mtR M r) o (dayF M (mtR M r) o (lastW M d - d).toNat d) = some (x, L) → lastP L ≠ p := by
    intro x L e q
    apply h
    have es : stepF M (mtR M r) o d = (o, dayF M (mtR M r) o (lastW M d - d).toNat d, some (x, L), reaF M (mtR M r) o d) := by unfold stepF; rw [e]
    rw [es]
    exact q
  refine ⟨reaF M (mtA M r p) o d, ?_, (reaF_rng M _ o d).1⟩
  have e1 : (stepF M (mtR M r) o d).1 = o := by unfold stepF; rfl
  have e2 : (stepF M (mtR M r) o d).2.1 = dayF M (mtR M r) o (lastW M d - d).toNat d := by unfold stepF; rfl
  have e3 : (stepF M (mtR M r) o d).2.2.1 = decF M (mtR M r) o (dayF M (mtR M r) o (lastW M d - d).toNat d) := by unfold stepF; rfl
  rw [e1, e2, e3]
  unfold stepF
  rw [dayF_abs hp o _ _ hl, decF_abs hp o _ hl]
theorem route_abs {M : Od} {r p : Nat} (hp : p < 16) (w : Int) (hw : 1 ≤ w) : ∀ (n : Nat) (o d : Int), (∀ e ∈ routeF M (mtR M r) w n o d, sC e w 2 ≠ p) → (routeF M (mtA M r p) w n o d = [] ↔ routeF M (mtR M r) w n o d = []) ∧ (lC (routeF M (mtA M r p) w n o d) w 4 = 0 ↔ lC (routeF M (mtR M r) w n o d) w 4 = 0)
  | 0, o, d, _ => ⟨Iff.rfl, Iff.rfl⟩
  | n + 1, o, d, h => by
    unfold routeF at h ⊢
    split
    · next hc =>
      rw [if_pos hc] at h
      have h0 : sC (stepF M (mtR M r) o.toNat d) w 2 ≠ p := by
        split at h
        · exact h _ (by simp)
        · exact h _ (by simp)
      obtain ⟨e', he', hr'⟩ := stepF_abs hp o.toNat d w h0
      have hr := reaF_rng M (mtR M r) o.toNat d
      have e4 : sC (stepF M (mtA M r p) o.toNat d) w 4 = 0 ↔ sC (stepF M (mtR M r) o.toNat d) w 4 = 0 := by
        rw [he']
        unfold sC
        simp only []
        cases hd : (stepF M (mtR M r) o.toNat d).2.2.1 with
        | none =>
          simp only []
          have : 2 ≤ (stepF M (mtR M r) o.toNat d).2.2.2 := hr.1
          omega
        | some z => exact Iff.rfl
      have e1 : (stepF M (mtA M r p) o.toNat d).2.1 = (stepF M (mtR M r) o.toNat d).2.1 := by rw [he']
      by_cases q : sC (stepF M (mtR M r) o.toNat d) w 4 = 0
      · rw [if_pos q, if_pos (e4.mpr q)]
        refine ⟨by simp, ?_⟩
        rw [lC_one, lC_one]
        exact e4
      · rw [if_neg q] at h
        rw [if_neg q, if_neg (fun z => q (e4.mp z)), e1]
        have ih := route_abs (M := M) (r := r) hp w hw n (M.2.1 4 o.toNat 0) ((stepF M (mtR M r) o.toNat d).2.1 + M.2.2 1) (fun e he => h e (List.mem_cons_of_mem _ he))
        refine ⟨by simp, ?_⟩
        by_cases hne : routeF M (mtR M r) w n (M.2.1 4 o.toNat 0) ((stepF M (mtR M r) o.toNat d).2.1 + M.2.2 1) = []
        · rw [hne, ih.1.mpr hne]
          rw [lC_one, lC_one]
          exact e4
        · rw [lC_cons hne, lC_cons (fun z => hne (ih.1.mp z))]
          exact ih.2
    · exact ⟨Iff.rfl, Iff.rfl⟩
theorem doF_mono (w : Int) (p : Nat) : ∀ (R : List SE) (g : Nat), g.testBit p = true → (doF w R g).testBit p = true
  | [], g, h => h
  | e :: R, g, h => doF_mono w p R _ (by rw [Nat.testBit_or, h]; rfl)
theorem doF_mem {w : Int} {p : Nat} (hp : p < 16) : ∀ (R : List SE) (g : Nat) {e : SE}, e ∈ R → sC e w 2 = p → (doF w R g).testBit p = true
  | e' :: R, g, e, he, h => by
    rw [List.mem_cons] at he
    rcases he with rfl | he
    · exact doF_mono w p R _ (by rw [Nat.testBit_or, bitI_test _ _ hp, h, decide_eq_true rfl, Bool.or_true])
    · exact doF_mem hp R _ he h
theorem plB_model {M : Od} (hO : OKM M) {r : Nat} (hr : r < M.1 5) {p : Nat} (hp : p < 16) : plB M r p = ((!recd M r && apd M r) && !decide (lC (rA M r p) (wq M r) 4 = 0)) := by
  unfold plB
  cases hd : (doF (wq M r) (rq M r) 0).testBit p with
  | true => rw [Bool.true_and]
  | false =>
    rw [Bool.false_and, Bool.and_false]
    cases ha : apd M r with
    | false => rw [Bool.and_false, Bool.false_and]
    | true =>
      have h2 := (route_abs (M := M) (r := r) hp (wq M r) (whF_rng hO hr _).1 12 (M.2.1 5 r 1) (M.2.1 5 r 5) (fun e he q => by
        have := doF_mem hp (rq M r) 0 he q
        rw [hd] at this; cases this)).2
      have : lC (rA M r p) (wq M r) 4 = 0 := h2.mpr (of_decide_eq_true ha)
      rw [decide_eq_true this, Bool.not_true, Bool.and_false]
def sp_misApprovedNow : Sp := (34, 0, 0, pMd, fun as σ K => ∃ (now was kept isk ln sp ls ld tb rd : Nat → Int32) (und gon lef ak vn dy asd lma lim rea sts apr tz spo wro num nuA stl spe wan fou : Int32) (M : Od) (r : Nat) (g : Int), as = [.ref 0, .int (iI r)] ∧ σ = (wMd now was kept isk ln sp ls ld tb rd und (iI g) (iI (-1)) ak vn dy asd lma lim rea sts apr tz spo wro num nuA stl spe wan fou) ∧ RM now M ∧ OKM M ∧ r < M.1 5 ∧ ir g ∧
  ∀ sp' ls' ln' ak' vn' dy' asd' lma' lim' rea' sts' apr', K (some (.int (bI (decide (lC (routeF M (mtG M r g (-1)) (wq M r) 12 (M.2.1 5 r 1) (M.2.1 5 r 5)) (wq M r) 4 = 0))))) (some (wMd now was kept isk ln' sp' ls' ld tb rd und (iI g) (iI (-1)) ak' vn' dy' asd' lma' lim' rea' sts' apr' tz spo wro num nuA stl spe wan fou)))
set_option maxRecDepth 20000 in
theorem v_misApprovedNow (l : Launch) : z_V l 255 sp_misApprovedNow := by
  refine z_V.ofP (by decide +kernel) ?_
  rintro as σ K Post ⟨now, was, kept, isk, ln, sp, ls, ld, tb, rd, und, gon, lef, ak, vn, dy, asd, lma, lim, rea, sts, apr, tz, spo, wro, num, nuA, stl, spe, wan, fou, M, r, g, rfl, rfl, hN, hO, hr, hg, hK⟩ hP1 hP0
  refine AW.go (bs := b_Mod_isApprovedNow) [] 60 t_Mod_isApprovedNow ?_
  refine ⟨_, v_mroutes l, by decide, _, _, _, _, _, _, _, _, _, _, _, 0, 0, _, _, _, _, _, _, _, _, _, _, _, _, _, _, _, _, _, _, M, r, g, -1, rfl, rfl, hN, hO, hr, hg, ⟨by omega, by omega⟩, fun sp' ls' ln' ak' vn' dy' asd' lma' lim' rea' sts' apr' hrt => ?_⟩
  obtain ⟨-, hs, ha⟩ := hrt
  subst ha
  exact And.intro (bI_01 _) (hP1 _ _ (hK _ _ _ _ _ _ _ _ _ _ _ _))
def sp_mfallsBy : Sp := (35, 0, 0, pMd, fun as σ K => ∃ (now was kept isk ln sp ls ld tb rd : Nat → Int32) (und gon lef ak vn dy asd lma lim rea sts apr tz spo wro num nuA stl spe wan fou : Int32) (M : Od) (p : Nat), as = [.ref 0, .int (iI p)] ∧ σ = (wMd now was kept isk ln sp ls ld tb rd und (iI (-1)) (iI (-1)) ak vn dy asd lma lim rea sts apr tz spo wro num nuA stl spe wan fou) ∧ RM now M ∧ OKM M ∧ p < 16 ∧
  ∀ sp' ls' ln' ak' vn' dy' asd' lma' lim' rea' sts' apr', K (some (.int (iI (plF M p (M.1 5) : Nat)))) (some (wMd now was kept isk ln' sp' ls' ld tb rd und (iI (-1)) (iI (-1)) ak' vn' dy' asd' lma' lim' rea' sts' apr' tz spo wro num nuA stl spe wan fou)))
set_option maxRecDepth 20000 in
theorem v_mfallsBy (l : Launch) : z_V l 256 sp_mfallsBy := by
  refine z_V.ofP (by decide +kernel) ?_
  rintro as σ K Post ⟨now, was, kept, isk, ln, sp, ls, ld, tb, rd, und, gon, lef, ak, vn, dy, asd, lma, lim, rea, sts, apr, tz, spo, wro, num, nuA, stl, spe, wan, fou, M, p, rfl, rfl, hN, hO, hp, hK⟩ hP1 hP0
  have hx5 := hO.mx 5 (by omega)
  have loop : ∀ (n i : Nat) (x2 x3 : Int32) (sp ls ln : Nat → Int32) (ak vn dy asd lma lim rea sts apr : Int32), n = M.1 5 - i → i ≤ M.1 5 → x2 = iI (plF M p i : Nat) → x3 = iI (i : Int) →
      AW l 256 35 0 0 11 none Post 4 [some (.ref 0), some (.int (iI p)), some (.int x2), some (.int x3)] [] (wMd now was kept isk ln sp ls ld tb rd und (iI (-1)) (iI (-1)) ak vn dy asd lma lim rea sts apr tz spo wro num nuA stl spe wan fou) 0 0 := by
    intro n
    induction n using Nat.strongRecOn with
    | ind n ih =>
      intro i x2 x3 sp ls ln ak vn dy asd lma lim rea sts apr hn hi e2 e3
      subst e2; subst e3
      refine AW.go (bs := b_Mod_fallsBy) [4, 50] 70 t_Mod_fallsBy ?_
      refine ⟨_, v_mrequests l, by decide, _, _, _, _, _, _, _, _, _, _, _, _, _, _, _, _, _, _, _, _, _, _, _, _, _, _, _, _, _, _, _, M, rfl, hN, hO, rfl, ?_⟩
      refine And.intro (fun h => ?_) (fun h => ?_)
      · rw [zc_ge (by omega) (by omega) (by omega) (by omega)] at h
        have : i = M.1 5 := by omega
        subst this
        exact hP1 _ _ (hK _ _ _ _ _ _ _ _ _ _ _ _)
      rw [zc_ge (by omega) (by omega) (by omega) (by omega)] at h
      have hr : i < M.1 5 := by omega
      have hpl := plB_model hO hr hp
      have es : plF M p (i + 1) = if plB M i p then plF M p i + 1 else plF M p i := rfl
      refine ⟨_, v_misRecalled l, by decide, _, _, _, _, _, _, _, _, _, _, _, _, _, _, _, _, _, _, _, _, _, _, _, _, _, _, _, _, _, _, _, M, rfl, hN, hO, i, rfl, hr, ?_⟩
      refine And.intro (fun g => ?_) (fun g => ?_)
      · rw [zc_bne] at g
        exact ih _ (by omega) (i + 1) _ _ _ _ _ _ _ _ _ _ _ _ _ _ rfl (by omega) (by rw [es, hpl, g]; rfl) (zn_inc i)
      rw [zc_bne, Bool.not_eq_true] at g
      refine ⟨_, v_misApprovedNow l, by decide, _, _, _, _, _, _, _, _, _, _, _, 0, 0, _, _, _, _, _, _, _, _, _, _, _, _, _, _, _, _, _, _, M, i, -1, rfl, rfl, hN, hO, hr, ⟨by omega, by omega⟩, fun sp' ls' ln' ak' vn' dy' asd' lma' lim' rea' sts' apr' => ?_⟩
      refine And.symm (And.intro (fun g2 => ?_) (fun g2 => ?_))
      · rw [zc_bne, Bool.not_eq_true] at g2
        have g3 : apd M i = false := g2
        exact ih _ (by omega) (i + 1) _ _ _ _ _ _ _ _ _ _ _ _ _ _ rfl (by omega) (by rw [es, hpl, g3, Bool.and_false, Bool.false_and]; rfl) (zn_inc i)
      rw [zc_bne] at g2
      have g3 : apd M i = true := g2
      refine ⟨_, v_misApprovedNow l, by decide, _, _, _, _, _, _, _, _, _, _, _, 0, 0, _, _, _, _, _, _, _, _, _, _, _, _, _, _, _, _, _, _, M, i, (p : Int), rfl, rfl, hN, hO, hr, ⟨by omega, by omega⟩, fun sp' ls' ln' ak' vn' dy' asd' lma' lim' rea' sts' apr' => ?_⟩
      have tail : ∀ (a : Nat), a = (if plB M i p then 1 else 0) → AW l 256 35 0 0 11 none Post 50 [some (.ref 0), some (.int (iI p)), some (.int (iI (plF M p i : Nat))), some (.int (iI (i : Int)))] [.int (z_nn a 0), .int (iI (plF M p i : Nat))] (wMd now was kept isk ln' sp' ls' ld tb rd und (iI (p : Int)) (iI (-1)) ak' vn' dy' asd' lma' lim' rea' sts' apr' tz spo wro num nuA stl spe wan fou) 0 0 := by
        intro a ha
        refine AW.go (bs := b_Mod_fallsBy) [4] 70 t_Mod_fallsBy ?_
        refine ih _ (by omega) (i + 1) _ _ _ _ _ _ _ _ _ _ _ _ _ _ rfl (by omega) ?_ (zn_inc i)
        rw [zn_i, iI_add, es, ha]
        split <;> first | rfl | (congr 1; done) | (congr 1; simp)
      refine And.intro (fun g4 => ?_) (fun g4 => ?_)
      · rw [zc_beq] at g4
        have g5 : decide (lC (rA M i p) (wq M i) 4 = 0) = false := g4
        exact tail 1 (by rw [hpl, g, g3, g5]; rfl)
      · rw [zc_beq, Bool.not_eq_false] at g4
        have g5 : decide (lC (rA M i p) (wq M i) 4 = 0) = true := g4
        exact tail 0 (by rw [hpl, g5, Bool.not_true, Bool.and_false]; rfl)
  refine AW.go (bs := b_Mod_fallsBy) [4] 70 t_Mod_fallsBy ?_
  exact loop _ 0 _ _ _ _ _ _ _ _ _ _ _ _ _ _ rfl (by omega) rfl rfl
set_option maxRecDepth 20000 in
theorem v_mpillar (l : Launch) : z_V l 257 (m1 40 (qp q_pillar)) := by
  refine z_V.ofP (by decide +kernel) ?_
  rintro as σ K Post ⟨S, ⟨hOS, now, was, kept, isk, ln, sp, ls, ld, tb, rd, und, gon, lef, ak, vn, dy, asd, lma, lim, rea, sts, apr, tz, spo, wro, num, nuA, stl, spe, wan, fou, rfl, hMR⟩, c, rfl, ⟨c1, c2⟩, hK⟩ hP1 hP0
  obtain ⟨hN, h2_, rfl, h4_, h5_, h6_, h7_, rfl, rfl, rfl, h11_⟩ := id hMR
  have hO := hOS.1
  have hx4 := hO.2.2.2.2.2.2.2.2.2 4 (by omega)
  rw [x_4] at hx4
  have hx5 := hO.2.2.2.2.2.2.2.2.2 5 (by omega)
  rw [x_5] at hx5
  unfold qp q_pillar at hK
  simp only [] at hK
  obtain ⟨T, hTe⟩ : ∃ T : Nat → Nat, T = fun p => plF S.1 p (S.1.1 5) := ⟨_, rfl⟩
  have hT : ∀ p, T p ≤ 40 := fun p => by rw [hTe]; have := cntF_le (fun r => plB S.1 r p) (S.1.1 5); show cntF _ _ ≤ 40; omega
  rw [← hTe] at hK
  have loop : ∀ (n k : Nat) (x2 x3 x4 : Int32) (v5 : Option Value) (sp ls ln : Nat → Int32) (ak vn dy asd lma lim rea sts apr : Int32), (0 ≤ c ∧ c ≤ 1) → n = 16 - k → k ≤ 16 → x2 = iI (bmF T k) → x3 = iI ((if bmF T k = -2 then 0 else T (bmF T k).toNat : Nat) : Int) → x4 = iI (k : Int) →
      AW l 257 40 0 0 11 none Post 20 [some (.ref 0), some (.int (iI c)), some (.int x2), some (.int x3), some (.int x4), v5] [] (wMd now was kept isk ln sp ls ld tb rd (iI S.2.1.length) (iI (-1)) (iI (-1)) ak vn dy asd lma lim rea sts apr (iI S.2.2.2.1) spo wro num nuA stl spe wan fou) 0 0 := by
    intro n
    induction n using Nat.strongRecOn with
    | ind n ih =>
      intro k x2 x3 x4 v5 sp ls ln ak vn dy asd lma lim rea sts apr hc hn hk e2 e3 e4
      subst e2; subst e3; subst e4
      have hb := bmF_rng T k
      have hmost : (if bmF T k = -2 then 0 else T (bmF T k).toNat : Nat) ≤ 40 := by split <;> first | omega | exact hT _
      refine AW.go (bs := b_Mod_pillar) [20] 60 t_Mod_pillar ?_
      refine And.intro (fun h2 => ?_) (fun h2 => ?_)
      · rw [zn_i, zc_ge (by omega) (by omega) (by omega) (by omega)] at h2
        have : k = 16 := by omega
        subst this
        rw [if_pos hc, ofT_bm] at hK
        refine And.intro (fun h3 => ?_) (fun h3 => ?_)
        · rw [zc_eq0 c1 c2] at h3
          rw [if_pos (Or.inl h3)] at hK
          exact hP1 _ _ (hK _ (isMd.mk hOS hMR))
        rw [zc_eq0 c1 c2] at h3
        refine And.symm (And.intro (fun h4 => ?_) (fun h4 => ?_))
        · have h4 := (zc_eq (b := -2) (by omega) (by omega) (by omega) (by omega)).mp (Classical.not_not.mp h4)
          rw [if_pos (Or.inr h4)] at hK
          exact hP1 _ _ (hK _ (isMd.mk hOS hMR))
        · have h4 := mt (zc_eq (a := bmF T 16) (b := -2) (by omega) (by omega) (by omega) (by omega)).mpr (fun q => h4 q)
          rw [if_neg (fun q => q.elim h3 h4)] at hK
          show Post _ _
          rw [if_neg h4]
          exact hP1 _ _ (hK _ (isMd.mk hOS hMR))
      rw [zn_i, zc_ge (by omega) (by omega) (by omega) (by omega)] at h2
      have hTk := hT k
      have es := bmF_step T k
      refine ⟨_, v_mfallsBy l, by decide, _, _, _, _, _, _, _, _, _, _, _, 0, 0, _, _, _, _, _, _, _, _, _, _, _, _, _, _, _, _, _, _, S.1, k, rfl, rfl, hN, hO, by omega, fun sp' ls' ln' ak' vn' dy' asd' lma' lim' rea' sts' apr' => ?_⟩
      have eT : plF S.1 k (S.1.1 5) = T k := by rw [hTe]
      show _ ∧ _
      rw [eT]
      refine And.symm (And.intro (fun h3 => ?_) (fun h3 => ?_))
      · rw [zc_gt (by omega) (by omega) (by omega) (by omega)] at h3
        have e0 : bmF T (k + 1) = bmF T k := by
          rw [es, if_neg]
          rintro ⟨q1, q2 | q2⟩
          · rw [if_pos q2] at h3; omega
          · by_cases q3 : bmF T k = -2
            · rw [if_pos q3] at h3; omega
            · rw [if_neg q3] at h3; omega
        exact ih _ (by omega) (k + 1) _ _ _ _ _ _ _ _ _ _ _ _ _ _ _ _ hc rfl (by omega) (by rw [e0]) (by rw [e0]) (zn_inc k)
      · rw [zc_gt (by omega) (by omega) (by omega) (by omega)] at h3
        have e0 : bmF T (k + 1) = (k : Int) := by
          rw [es, if_pos]
          by_cases q3 : bmF T k = -2
          · rw [if_pos q3] at h3; exact ⟨by omega, Or.inl q3⟩
          · rw [if_neg q3] at h3; exact ⟨by omega, Or.inr (by omega)⟩
        exact ih _ (by omega) (k + 1) _ _ _ _ _ _ _ _ _ _ _ _ _ _ _ _ hc rfl (by omega) (by rw [e0]) (by rw [e0, if_neg (by omega), Int.toNat_natCast]) (zn_inc k)
  refine AW.go (bs := b_Mod_pillar) [20] 60 t_Mod_pillar ?_
  refine ⟨_, v_in l, by decide, rfl, c, 0, 1, _, _, _, rfl, l_i c1 c2, l_0, l_1, ⟨by omega, by omega⟩, ⟨by omega, by omega⟩, ⟨by omega, by omega⟩, ?_⟩
  refine And.symm (And.intro (fun h => ?_) (fun h => ?_))
  · rw [zc_bne, decide_eq_true_eq] at h
    rw [if_neg h] at hK
    exact hP1 _ _ (hK _ (isMd.mk hOS hMR))
  rw [zc_bne, decide_eq_true_eq] at h
  exact loop _ 0 _ _ _ _ _ _ _ _ _ _ _ _ _ _ _ _ h rfl (by omega) rfl rfl rfl
/-! purchases split on purpose, in the model -/
def dgB (M : Od) (m : Mt) (o : Nat) (a y : Int) (n : Nat) : Bool := decide (y + ((n : Int) - 1) * ((M.2.2 0 : Int) + 1) ≤ 999) && cvB (dgP M m o y) a n n
def sp_misDodged : Sp := (32, 0, 0, pMd, fun as σ K => ∃ (now was kept isk ln sp ls ld tb rd : Nat → Int32) (und gon lef ak vn dy asd lma lim rea sts apr tz spo wro num nuA stl spe wan fou : Int32) (M : Od) (m : Mt) (o n : Nat) (a y : Int) (z : Int32), as = [.ref 0, .int (iI o), .int z, .int (iI a), .int (iI n), .int (iI y)] ∧ z = iI (mK m) ∧ σ = (wMd now was kept isk ln sp ls ld tb rd und (iI (mA m)) (iI (mL m)) (iI (mP m)) (iI (mV m)) dy asd lma lim rea sts apr tz spo wro num nuA stl spe wan fou) ∧ RM now M ∧ OKM M ∧ mOK m ∧ o < M.1 4 ∧ 1 ≤ n ∧ n ≤ 40 ∧ (n : Int) ≤ a ∧ a ≤ 9999 ∧ 0 ≤ y ∧ y ≤ 999 ∧
  ∀ sp' ls' ln' dy' asd' lma' lim' rea' sts' apr', K (some (.int (bI (dgB M m o a y n)))) (some (wMd now was kept isk ln' sp' ls' ld tb rd und (iI (mA m)) (iI (mL m)) (iI (mP m)) (iI (mV m)) dy' asd' lma' lim' rea' sts' apr' tz spo wro num nuA stl spe wan fou)))
set_option maxRecDepth 20000 in
theorem v_misDodged (l : Launch) : z_V l 259 sp_misDodged := by
  refine z_V.ofP (by decide +kernel) ?_
  rintro as σ K Post ⟨now, was, kept, isk, ln, sp, ls, ld, tb, rd, und, gon, lef, ak, vn, dy, asd, lma, lim, rea, sts, apr, tz, spo, wro, num, nuA, stl, spe, wan, fou, M, m, o, n, a, y, z, rfl, rfl, rfl, hN, hO, hm, ho, n1, n2, na, a2, y1, y2, hK⟩ hP1 hP0
  have hx4 := hO.mx 4 (by omega)
  have b0 := hO.2.2.2.2.2.2.1
  obtain ⟨m1, m2, m3, m4, m5, m6⟩ := id hm
  have hw : now 5 = iI (M.2.2 0 : Nat) := hN.2.2 0 (by omega)
  obtain ⟨d1, d2, d3, d4⟩ := shr_rng (a := a) (n := n) (i := 0) n1 (by omega) a2
  have d5 : 1 ≤ a / (n : Int) := (Int.le_ediv_iff_mul_le (by omega)).mpr (by omega)
  have hmul : ∀ i : Nat, i ≤ 40 → 0 ≤ (i : Int) * ((M.2.2 0 : Int) + 1) ∧ (i : Int) * ((M.2.2 0 : Int) + 1) ≤ 4000 := by
    intro i hi
    refine ⟨Int.mul_nonneg (by omega) (by omega), ?_⟩
    have : (i : Int) * ((M.2.2 0 : Int) + 1) ≤ 40 * 100 := Int.mul_le_mul (by omega) (by omega) (by omega) (by omega)
    omega
  have nz : ¬ iI (n : Int) = 0 := by rw [iI_0, iI_inj (by omega) (by omega) (by omega) (by omega)]; omega
  have loop : ∀ (q i : Nat) (x6 x7 : Int32) (v8 : Option Value) (sp ls ln : Nat → Int32) (dy asd lma lim rea sts apr : Int32), q = n - i → i ≤ n → x6 = iI (y + i * ((M.2.2 0 : Int) + 1)) → x7 = iI (i : Int) → (1 ≤ i → y + ((i : Int) - 1) * ((M.2.2 0 : Int) + 1) ≤ 999) → cvB (dgP M m o y) a n i = true →
      AW l 259 32 0 0 11 none Post 7 [some (.ref 0), some (.int (iI o)), some (.int (iI (mK m))), some (.int (iI a)), some (.int (iI n)), some (.int (iI y)), some (.int x6), some (.int x7), v8] [] (wMd now was kept isk ln sp ls ld tb rd und (iI (mA m)) (iI (mL m)) (iI (mP m)) (iI (mV m)) dy asd lma lim rea sts apr tz spo wro num nuA stl spe wan fou) 0 0 := by
    intro q
    induction q using Nat.strongRecOn with
    | ind q ih =>
      intro i x6 x7 v8 sp ls ln dy asd lma lim rea sts apr hq hi e6 e7 hdy hcv
      subst e6; subst e7
      have hmi := hmul i (by omega)
      refine AW.go (bs := b_Mod_isDodged) [7, 57] 90 t_Mod_isDodged ?_
      refine And.intro (fun h => ?_) (fun h => ?_)
      · rw [zc_ge (by omega) (by omega) (by omega) (by omega)] at h
        have : i = n := by omega
        subst this
        have e : dgB M m o a y i = true := by unfold dgB; rw [decide_eq_true (hdy (by omega)), hcv]; rfl
        have := hK sp ls ln dy asd lma lim rea sts apr
        rw [e] at this
        exact And.intro (Or.inr rfl) (hP1 _ _ this)
      rw [zc_ge (by omega) (by omega) (by omega) (by omega)] at h
      have hstep : (n : Int) - 1 ≥ i := by omega
      have hmn : (i : Int) * ((M.2.2 0 : Int) + 1) ≤ ((n : Int) - 1) * ((M.2.2 0 : Int) + 1) := Int.mul_le_mul_of_nonneg_right (by omega) (by omega)
      refine And.symm (And.intro (fun h2 => ?_) (fun h2 => ?_))
      · rw [zn_i, zc_le (by omega) (by omega) (by omega) (by omega)] at h2
        have e : dgB M m o a y n = false := by unfold dgB; rw [decide_eq_false (by omega)]; rfl
        have := hK sp ls ln dy asd lma lim rea sts apr
        rw [e] at this
        exact And.intro (Or.inl rfl) (hP1 _ _ this)
      rw [zn_i, zc_le (by omega) (by omega) (by omega) (by omega)] at h2
      refine And.intro (Or.inl rfl) ?_
      refine And.intro nz ?_
      refine And.intro nz ?_
      show _ ∧ _
      rw [iI_rem (by omega) (by omega) (by omega) (by omega), iI_div (by omega) (by omega) (by omega) (by omega)]
      have call : ∀ t : Nat, iI (a / (n : Int)) + z_nn t 0 = iI (shr a n i) → AW l 259 32 0 0 11 none Post 57 [some (.ref 0), some (.int (iI o)), some (.int (iI (mK m))), some (.int (iI a)), some (.int (iI n)), some (.int (iI y)), some (.int (iI (y + i * ((M.2.2 0 : Int) + 1)))), some (.int (iI (i : Int))), v8] [.int (z_nn t 0), .int (iI (a / (n : Int))), .int (iI (mK m)), .int (iI (y + i * ((M.2.2 0 : Int) + 1))), .int (iI o), .ref 0] (wMd now was kept isk ln sp ls ld tb rd und (iI (mA m)) (iI (mL m)) (iI (mP m)) (iI (mV m)) dy asd lma lim rea (iI 0) (iI 0) tz spo wro num nuA stl spe wan fou) 0 0 := by
        intro t et
        have hsh : 1 ≤ shr a n i ∧ shr a n i ≤ 10000 := by unfold shr; split <;> omega
        have hst := stepF_ok hO hm ho (d := y + i * ((M.2.2 0 : Int) + 1)) (by omega) (by omega)
        refine AW.go (bs := b_Mod_isDodged) [7] 90 t_Mod_isDodged ?_
        show ∃ sp : Sp, _
        rw [et]
        refine ⟨_, v_mclimbs l, by decide, _, _, _, _, _, _, _, _, _, _, _, 0, 0, 0, 0, _, _, _, _, _, 0, 0, _, _, _, _, _, _, _, _, _, M, m, [], o, y + i * ((M.2.2 0 : Int) + 1), shr a n i, _, rfl, rfl, rfl, hN, hO, hm, ho, by omega, by omega, ⟨by omega, by omega⟩, by decide, fun i e h => by simp at h, fun e h => by simp at h, fun sp' ls' ln' dy' asd' lma' lim' rea' hRR' => ?_⟩
        have e4 := sC4 hst (w := shr a n i) (by omega)
        have ep : sC (stepF M m o (y + i * ((M.2.2 0 : Int) + 1))) 10000 3 = dgP M m o y i := sC_w _ _ _ 3 (by omega)
        rw [ep] at e4
        refine And.symm (And.intro (fun h3 => ?_) (fun h3 => ?_))
        · rw [zc_bne, decide_eq_true_iff] at h3
          have e : dgB M m o a y n = false := by
            unfold dgB
            rw [cvB_false (i := i + 1) (by rw [cvB, decide_eq_false (fun q => h3 (e4.mpr q)), Bool.and_false]) n (by omega), Bool.and_false]
          have := hK sp' ls' ln' dy' asd' lma' lim' rea' (iI ((0 + 1 : Nat) : Int)) (bI (decide (sC (stepF M m o (y + i * ((M.2.2 0 : Int) + 1))) (shr a n i) 4 = 0)))
          rw [e] at this
          exact And.intro (Or.inl rfl) (hP1 _ _ this)
        rw [zc_bne, decide_eq_true_iff] at h3
        refine And.intro (zn_in (by omega) (by omega)) ?_
        have e6 : iI (y + i * ((M.2.2 0 : Int) + 1)) + (now 5 + z_nn 1 0) = iI (y + ((i + 1 : Nat) : Int) * ((M.2.2 0 : Int) + 1)) := by
          rw [hw, zn_i, iI_add, iI_add]; congr 1; push_cast; rw [Int.add_mul, Int.one_mul]; omega
        show AW _ _ _ _ _ _ _ _ _ _ _ _ _ _
        rw [zn_cl (by omega), e6]
        refine ih _ (by omega) (i + 1) _ _ _ _ _ _ _ _ _ _ _ _ _ rfl (by omega) rfl (zn_inc i) (fun _ => by rw [show ((i + 1 : Nat) : Int) - 1 = (i : Int) by omega]; omega) ?_
        rw [cvB, hcv, decide_eq_true (e4.mp h3)]; rfl
      refine And.intro (fun h3 => ?_) (fun h3 => ?_)
      · rw [zc_ge (by omega) (by omega) (by omega) (by omega)] at h3
        exact call 0 (by unfold shr; rw [if_neg (by omega), zn_i, iI_add]; congr 1; omega)
      · rw [zc_ge (by omega) (by omega) (by omega) (by omega)] at h3
        exact call 1 (by unfold shr; rw [if_pos (by omega), zn_i, iI_add]; rfl)
  refine AW.go (bs := b_Mod_isDodged) [7] 90 t_Mod_isDodged ?_
  exact loop _ 0 _ _ _ _ _ _ _ _ _ _ _ _ _ rfl (by omega) (by congr 1; simp) rfl (fun e => by omega) rfl
/-- once too late, always too late -/
theorem dgF_late {M : Od} {m : Mt} {o : Nat} {a y : Int} : ∀ (q n : Nat), 1 ≤ n → 1000 ≤ y + ((n : Int) - 1) * ((M.2.2 0 : Int) + 1) → dgF M m o a y q n = -2
  | 0, n, _, _ => rfl
  | q + 1, n, _, h => by
    unfold dgF
    split
    · first | rfl | rw [if_pos h]
    · rfl
set_option maxRecDepth 20000 in
theorem v_mdodge (l : Launch) : z_V l 260 (m5 40 (qp5 q_dodge)) := by
  refine z_V.ofP (by decide +kernel) ?_
  rintro as σ K Post ⟨S, ⟨hOS, now, was, kept, isk, ln, sp, ls, ld, tb, rd, und, gon, lef, ak, vn, dy, asd, lma, lim, rea, sts, apr, tz, spo, wro, num, nuA, stl, spe, wan, fou, rfl, hMR⟩, p, o, q, a, y, rfl, ⟨p1, p2⟩, ⟨o1, o2⟩, ⟨q1, q2⟩, ⟨a1, a2⟩, ⟨y1, y2⟩, hK⟩ hP1 hP0
  obtain ⟨hN, h2_, rfl, h4_, h5_, h6_, h7_, rfl, rfl, rfl, h11_⟩ := id hMR
  have hO := hOS.1
  have hx4 := hO.2.2.2.2.2.2.2.2.2 4 (by omega)
  rw [x_4] at hx4
  have hx5 := hO.2.2.2.2.2.2.2.2.2 5 (by omega)
  rw [x_5] at hx5
  unfold qp5 q_dodge at hK
  simp only [] at hK
  have fail : Unit → ¬ (0 ≤ p ∧ p ≤ 15 ∧ 0 ≤ o ∧ o < S.1.1 4 ∧ 0 ≤ q ∧ q ≤ 29 ∧ 1 ≤ a ∧ a ≤ 9999 ∧ 0 ≤ y ∧ y ≤ 999) → Post (some (.int (iI (-1)))) (wMd now was kept isk ln sp ls ld tb rd (iI S.2.1.length) (iI (-1)) (iI (-1)) ak vn dy asd lma lim rea sts apr (iI S.2.2.2.1) spo wro num nuA stl spe wan fou) := by
    intro _ hn; rw [if_neg hn] at hK; exact hP1 _ _ (hK _ (isMd.mk hOS hMR))
  have loop : ∀ j : Nat, o = (j : Int) → (0 ≤ p ∧ p ≤ 15 ∧ 0 ≤ o ∧ o < S.1.1 4 ∧ 0 ≤ q ∧ q ≤ 29 ∧ 1 ≤ a ∧ a ≤ 9999 ∧ 0 ≤ y ∧ y ≤ 999) → ∀ (u n : Nat) (x6 : Int32) (sp ls ln : Nat → Int32) (dy asd lma lim rea sts apr : Int32), n + u = 42 → 1 ≤ n → x6 = iI (n : Int) → dgF S.1 (mtQ p q) j a y u n = dgF S.1 (mtQ p q) j a y 41 1 →
      AW l 260 40 0 0 11 none Post 57 [some (.ref 0), some (.int (iI p)), some (.int (iI o)), some (.int (iI q)), some (.int (iI a)), some (.int (iI y)), some (.int x6)] [] (wMd now was kept isk ln sp ls ld tb rd (iI S.2.1.length) (iI (-1)) (iI (-1)) (iI p) (iI (q % 10)) dy asd lma lim rea sts apr (iI S.2.2.2.1) spo wro num nuA stl spe wan fou) 0 0 := by
    intro j hj hc u
    subst hj
    rw [if_pos hc, Int.toNat_natCast] at hK
    have hj4 : j < S.1.1 4 := by omega
    have hm := mtQ_ok (p := p) (q := q) (by omega) (by omega) (by omega) (by omega)
    have b0 := hO.2.2.2.2.2.2.1
    induction u with
    | zero =>
      intro n x6 sp ls ln dy asd lma lim rea sts apr hu hn e6 hv
      subst e6
      rw [dgF] at hv
      rw [← hv] at hK
      refine AW.go (bs := b_Mod_dodge) [57] 80 t_Mod_dodge ?_
      refine And.intro (fun h => ?_) (fun h => ?_)
      · exact hP1 _ _ (hK _ (isMd.mk hOS hMR))
      · rw [zn_i, zc_gt (by omega) (by omega) (by omega) (by omega)] at h; omega
    | succ u ih =>
      intro n x6 sp ls ln dy asd lma lim rea sts apr hu hn e6 hv
      subst e6
      rw [dgF] at hv
      refine AW.go (bs := b_Mod_dodge) [57] 80 t_Mod_dodge ?_
      refine And.intro (fun h => ?_) (fun h => ?_)
      · rw [zn_i, zc_gt (by omega) (by omega) (by omega) (by omega)] at h
        rw [if_neg (by omega)] at hv
        rw [← hv] at hK
        exact hP1 _ _ (hK _ (isMd.mk hOS hMR))
      rw [zn_i, zc_gt (by omega) (by omega) (by omega) (by omega)] at h
      refine And.intro (fun h => ?_) (fun h => ?_)
      · rw [zc_gt (by omega) (by omega) (by omega) (by omega)] at h
        rw [if_neg (by omega)] at hv
        rw [← hv] at hK
        exact hP1 _ _ (hK _ (isMd.mk hOS hMR))
      rw [zc_gt (by omega) (by omega) (by omega) (by omega)] at h
      rw [if_pos (by omega)] at hv
      refine And.intro (by decide) ?_
      show ∃ sp : Sp, _
      rw [zn_i 10, iI_div (by omega) (by omega) (by omega) (by omega)]
      refine ⟨_, v_misDodged l, by decide, _, _, _, _, _, _, _, _, _, _, _, 0, 0, 0, 0, _, _, _, _, _, _, _, _, _, _, _, _, _, _, _, _, S.1, mtQ p q, j, n, a, y, _, rfl, rfl, rfl, hN, hO, hm, hj4, hn, by omega, by omega, by omega, by omega, by omega, fun sp' ls' ln' dy' asd' lma' lim' rea' sts' apr' => ?_⟩
      refine And.symm (And.intro (fun h3 => ?_) (fun h3 => ?_))
      · rw [zc_beq, Bool.not_eq_false] at h3
        unfold dgB at h3
        rw [Bool.and_eq_true, decide_eq_true_iff] at h3
        rw [if_neg (by omega), if_pos h3.2] at hv
        rw [← hv] at hK
        exact hP1 _ _ (hK _ (isMd.mk hOS hMR))
      · rw [zc_beq] at h3
        refine ih (n + 1) _ _ _ _ _ _ _ _ _ _ _ (by omega) (by omega) (zn_inc n) ?_
        unfold dgB at h3
        by_cases hl : 1000 ≤ y + ((n : Int) - 1) * ((S.1.2.2 0 : Int) + 1)
        · rw [if_pos hl] at hv
          rw [← hv]
          refine dgF_late _ _ (by omega) ?_
          have : ((n : Int) - 1) * ((S.1.2.2 0 : Int) + 1) ≤ (((n + 1 : Nat) : Int) - 1) * ((S.1.2.2 0 : Int) + 1) := Int.mul_le_mul_of_nonneg_right (by omega) (by omega)
          omega
        · rw [if_neg hl] at hv
          rw [decide_eq_true (by omega), Bool.true_and] at h3
          rw [if_neg (by rw [h3]; decide)] at hv
          exact hv
  refine AW.go (bs := b_Mod_dodge) [57] 80 t_Mod_dodge ?_
  refine ⟨_, v_misPerson l, by decide, rfl, p, rfl, ⟨p1, p2⟩, ?_⟩
  refine And.intro (fun h => ?_) (fun h => ?_)
  · rw [zc_beq, decide_eq_false_iff_not] at h; exact fail () (by omega)
  rw [zc_beq, decide_eq_false_iff_not, Classical.not_not] at h
  refine ⟨_, v_misPost l, by decide, _, _, _, _, _, _, _, _, _, _, _, _, _, _, _, _, _, _, _, _, _, _, _, _, _, _, _, _, _, _, _, S.1, rfl, hN, hO, o, rfl, ⟨o1, o2⟩, ?_⟩
  refine And.intro (fun h => ?_) (fun h => ?_)
  · rw [zc_beq, decide_eq_false_iff_not] at h; exact fail () (by omega)
  rw [zc_beq, decide_eq_false_iff_not, Classical.not_not] at h
  refine ⟨_, v_misWhich l, by decide, rfl, q, rfl, ⟨q1, q2⟩, ?_⟩
  refine And.intro (fun h => ?_) (fun h => ?_)
  · rw [zc_beq, decide_eq_false_iff_not] at h; exact fail () (by omega)
  rw [zc_beq, decide_eq_false_iff_not, Classical.not_not] at h
  refine ⟨_, v_in l, by decide, rfl, a, 1, 9999, _, _, _, rfl, l_i a1 a2, l_1, l_k 9999, ⟨by omega, by omega⟩, ⟨by omega, by omega⟩, ⟨by omega, by omega⟩, ?_⟩
  refine And.intro (fun h => ?_) (fun h => ?_)
  · rw [zc_beq, decide_eq_false_iff_not] at h; exact fail () (by omega)
  rw [zc_beq, decide_eq_false_iff_not, Classical.not_not] at h
  refine ⟨_, v_misDay l, by decide, rfl, y, rfl, ⟨y1, y2⟩, ?_⟩
  refine And.symm (And.intro (fun h => ?_) (fun h => ?_))
  · rw [zc_bne, decide_eq_true_eq] at h; exact fail () (by omega)
  rw [zc_bne, decide_eq_true_eq] at h
  refine And.intro (by decide) ?_
  show ∃ sp : Sp, _
  rw [zn_i 10, iI_rem (by omega) (by omega) (by omega) (by omega)]
  refine ⟨_, v_masksFor l, by decide, _, _, _, _, _, _, _, _, _, _, _, _, _, _, _, _, _, _, _, _, _, _, _, _, _, _, _, _, _, _, _, _, _, rfl, rfl, ?_⟩
  obtain ⟨j, rfl⟩ : ∃ j : Nat, o = (j : Int) := ⟨o.toNat, by omega⟩
  exact loop j rfl (by omega) 41 1 _ _ _ _ _ _ _ _ _ _ _ (by omega) (by omega) rfl rfl
