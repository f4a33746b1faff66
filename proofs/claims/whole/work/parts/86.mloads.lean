/-! tallies in the model -/
def sp_mcounts : Sp := (0, 0, 0, pMd, fun as σ K => ∃ (now was kept isk ln sp ls ld tb rd : Nat → Int32) (und gon lef ak vn dy asd lma lim rea sts apr tz spo wro num nuA stl spe wan fou : Int32) (w : Int) (R : List SE) (k : Nat) (e : SE) (T : Nat → Nat → Nat), as = [.ref 0, .int (iI (6 * k : Nat))] ∧ σ = (wMd now was kept isk ln sp ls ld tb rd und gon lef ak vn dy asd lma lim rea sts apr tz spo wro num nuA stl spe wan fou) ∧ RR sp ls w R ∧ R.length ≤ 12 ∧ R[k]? = some e ∧ rOK e ∧ (∀ c p, c < 3 → p < 16 → ld (16 * c + p) = iI (T c p : Nat) ∧ T c p ≤ 1000) ∧
  ∀ ld', (∀ c p, c < 3 → p < 16 → ld' (16 * c + p) = iI (T c p + (if ctE w c p e then 1 else 0) : Nat)) → K none (some (wMd now was kept isk ln sp ls ld' tb rd und gon lef ak vn dy asd lma lim rea sts apr tz spo wro num nuA stl spe wan fou)))
set_option maxRecDepth 20000 in
theorem v_mcounts (l : Launch) : z_V l 202 sp_mcounts := by
  refine z_V.ofP (by decide +kernel) ?_
  rintro as σ K Post ⟨now, was, kept, isk, ln, sp, ls, ld, tb, rd, und, gon, lef, ak, vn, dy, asd, lma, lim, rea, sts, apr, tz, spo, wro, num, nuA, stl, spe, wan, fou, w, R, k, e, T, rfl, rfl, hRR, hl, he, heo, hT, hK⟩ hP1 hP0
  have hk := (List.getElem?_eq_some_iff.mp he).1
  have s2 := sC_rng heo w 2
  have s4 := sC_rng heo w 4
  have s5 := sC_rng heo w 5
  have ei : ∀ c : Nat, c < 6 → iI ((6 * k : Nat) : Int) + z_nn c 0 = iI ((6 * k + c : Nat) : Int) := fun c hc => by rw [zn_i, iI_add]; rfl
  have hv : ∀ c : Nat, c < 6 → sp (6 * k + c) = iI (sC e w c) := (hRR k e he).1
  refine AW.go (bs := b_Mod_counts) [52, 80] 90 t_Mod_counts ?_
  show _ ∧ _
  rw [ei 2 (by omega)]
  refine And.intro (zN_in (by omega) (by omega)) ?_
  show _ ∧ _
  rw [zN_cl (by omega), hv 2 (by omega)]
  refine And.symm (And.intro (fun h => ?_) (fun h => ?_))
  · have h := (zc_eq (b := -2) (by omega) (by omega) (by omega) (by omega)).mp (Classical.not_not.mp h)
    refine hP1 _ _ (hK _ (fun c p hc hp => ?_))
    rw [(hT c p hc hp).1, ctE, h, decide_eq_false (by omega)]; rfl
  have h := mt (zc_eq (a := sC e w 2) (b := -2) (by omega) (by omega) (by omega) (by omega)).mpr (fun q => h q)
  have hp2 : 0 ≤ sC e w 2 ∧ sC e w 2 < 16 := by
    unfold sC at h ⊢
    simp only [] at h ⊢
    cases hd : e.2.2.1 with
    | none => rw [hd] at h; exact absurd rfl h
    | some z => obtain ⟨x, L⟩ := z; exact lastP_rng (heo.2.2.2.1 x L hd).2.2.2.2
  obtain ⟨p, hp⟩ : ∃ p : Nat, sC e w 2 = (p : Int) := ⟨(sC e w 2).toNat, by omega⟩
  have hp16 : p < 16 := by omega
  have e16 : z_nn 16 0 + iI (p : Int) = iI ((16 * 1 + p : Nat) : Int) := by rw [zn_i, iI_add]; rfl
  have e32 : z_nn 32 0 + iI (p : Int) = iI ((16 * 2 + p : Nat) : Int) := by rw [zn_i, iI_add]; rfl
  have t0 := hT 0 p (by omega) hp16
  have t1 := hT 1 p (by omega) hp16
  have t2 := hT 2 p (by omega) hp16
  rw [show 16 * 0 + p = p by omega] at t0
  -- the last part, then the middle one
  have fin : ∀ (a b : Nat), a = (if sC e w 4 = 0 then 1 else 0) → b = (if 0 < sC e w 5 then 1 else 0) → ∀ ld', ld' = upd (upd (upd ld p (iI ((T 0 p : Nat) : Int) + z_nn 1 0)) (16 * 1 + p) (iI ((T 1 p : Nat) : Int) + z_nn a 0)) (16 * 2 + p) (iI ((T 2 p : Nat) : Int) + z_nn b 0) → Post none (wMd now was kept isk ln sp ls ld' tb rd und gon lef ak vn dy asd lma lim rea sts apr tz spo wro num nuA stl spe wan fou) := by
    intro a b ha hb ld' hld
    refine hP1 _ _ (hK ld' (fun c q hc hq => ?_))
    have hTq := hT c q hc hq
    have ect : ctE w c q e = (decide (p = q) && (if c = 0 then true else if c = 1 then decide (sC e w 4 = 0) else decide (0 < sC e w 5))) := by
      unfold ctE caF
      rw [hp]
      have e1 : decide ((p : Int) = (q : Int)) = decide (p = q) := decide_eq_decide.mpr (by omega)
      rw [e1]
      have : c = 0 ∨ c = 1 ∨ c = 2 := by omega
      rcases this with rfl | rfl | rfl <;> rfl
    rw [hld]
    simp only [upd]
    by_cases e1 : p = q
    · subst e1
      rw [ect, decide_eq_true rfl, Bool.true_and]
      have : c = 0 ∨ c = 1 ∨ c = 2 := by omega
      rcases this with rfl | rfl | rfl
      · rw [if_neg (by omega), if_neg (by omega), if_pos (by omega), zn_i, iI_add]; rfl
      · rw [if_neg (by omega), if_pos rfl, zn_i, iI_add, ha]
        by_cases q : sC e w 4 = 0
        · simp [q]
        · simp [q]
      · rw [if_pos rfl, zn_i, iI_add, hb]
        by_cases q : 0 < sC e w 5
        · simp [q]
        · simp [q]
    · rw [ect, decide_eq_false e1, Bool.false_and, if_neg (by omega), if_neg (by omega), if_neg (by omega), hTq.1]; rfl
  show _ ∧ _
  rw [hp]
  refine And.intro (zN_in (by omega) (by omega)) ?_
  refine And.intro (zN_in (by omega) (by omega)) ?_
  show _ ∧ _
  rw [e16, zN_cl (by omega : p < 2147483648), t0.1]
  refine And.intro (zN_in (by omega) (by omega)) ?_
  show _ ∧ _
  rw [ei 4 (by omega)]
  refine And.intro (zN_in (by omega) (by omega)) ?_
  show _ ∧ _
  rw [zN_cl (by omega : 16 * 1 + p < 2147483648), zN_cl (by omega : 6 * k + 4 < 2147483648), hv 4 (by omega), show upd ld p (iI ((T 0 p : Nat) : Int) + z_nn 1 0) (16 * 1 + p) = iI ((T 1 p : Nat) : Int) by unfold upd; rw [if_neg (by omega)]; exact t1.1]
  have last : ∀ (a : Nat) (ld' : Nat → Int32), a = (if sC e w 4 = 0 then 1 else 0) → ld' = upd ld p (iI ((T 0 p : Nat) : Int) + z_nn 1 0) → AW l 202 0 0 0 11 none Post 52 [some (.ref 0), some (.int (iI ((6 * k : Nat) : Int))), some (.int (iI (p : Int)))] [.int (z_nn a 0), .int (iI ((T 1 p : Nat) : Int)), .int (iI ((16 * 1 + p : Nat) : Int)), .ref 8] (wMd now was kept isk ln sp ls ld' tb rd und gon lef ak vn dy asd lma lim rea sts apr tz spo wro num nuA stl spe wan fou) 0 0 := by
    intro a ld' ha hld
    subst hld
    refine AW.go (bs := b_Mod_counts) [80] 90 t_Mod_counts ?_
    refine And.intro (zN_in (by omega) (by omega)) ?_
    show _ ∧ _
    rw [e32]
    refine And.intro (zN_in (by omega) (by omega)) ?_
    show _ ∧ _
    rw [ei 5 (by omega)]
    refine And.intro (zN_in (by omega) (by omega)) ?_
    show _ ∧ _
    rw [zN_cl (by omega : 16 * 1 + p < 2147483648), zN_cl (by omega : 16 * 2 + p < 2147483648), zN_cl (by omega : 6 * k + 5 < 2147483648), hv 5 (by omega), show upd (upd ld p (iI ((T 0 p : Nat) : Int) + z_nn 1 0)) (16 * 1 + p) (iI ((T 1 p : Nat) : Int) + z_nn a 0) (16 * 2 + p) = iI ((T 2 p : Nat) : Int) by simp only [upd]; rw [if_neg (by omega), if_neg (by omega)]; exact t2.1]
    have last2 : ∀ (b : Nat), b = (if 0 < sC e w 5 then 1 else 0) → AW l 202 0 0 0 11 none Post 80 [some (.ref 0), some (.int (iI ((6 * k : Nat) : Int))), some (.int (iI (p : Int)))] [.int (z_nn b 0), .int (iI ((T 2 p : Nat) : Int)), .int (iI ((16 * 2 + p : Nat) : Int)), .ref 8] (wMd now was kept isk ln sp ls (upd (upd ld p (iI ((T 0 p : Nat) : Int) + z_nn 1 0)) (16 * 1 + p) (iI ((T 1 p : Nat) : Int) + z_nn a 0)) tb rd und gon lef ak vn dy asd lma lim rea sts apr tz spo wro num nuA stl spe wan fou) 0 0 := by
      intro b hb
      refine AW.go (bs := b_Mod_counts) [] 90 t_Mod_counts ?_
      refine And.intro (zN_in (by omega) (by omega)) ?_
      show Post _ _
      rw [zN_cl (by omega)]
      exact fin a b ha hb _ rfl
    refine And.intro (fun h5 => ?_) (fun h5 => ?_)
    · rw [zc_le0 (by omega) (by omega)] at h5
      exact last2 0 (by rw [if_neg (by omega)])
    · rw [zc_le0 (by omega) (by omega)] at h5
      exact last2 1 (by rw [if_pos (by omega)])
  refine And.intro (fun h4 => ?_) (fun h4 => ?_)
  · rw [zc_ne0 (by omega) (by omega)] at h4
    exact last 0 _ (by rw [if_neg h4]) rfl
  · rw [zc_ne0 (by omega) (by omega), Classical.not_not] at h4
    exact last 1 _ (by rw [if_pos h4]) rfl
def sp_mlaysLoads : Sp := (34, 0, 0, pMd, fun as σ K => ∃ (now was kept isk ln sp ls ld tb rd : Nat → Int32) (und gon lef ak vn dy asd lma lim rea sts apr tz spo wro num nuA stl spe wan fou : Int32) (M : Od), as = [.ref 0] ∧ σ = (wMd now was kept isk ln sp ls ld tb rd und (iI (-1)) (iI (-1)) ak vn dy asd lma lim rea sts apr tz spo wro num nuA stl spe wan fou) ∧ RM now M ∧ OKM M ∧
  ∀ sp' ls' ln' ld' ak' vn' dy' asd' lma' lim' rea' sts' apr', (∀ c p : Nat, c < 3 → p < 16 → ld' (16 * c + p) = iI (tlF M c p (M.1 5) : Nat)) → K none (some (wMd now was kept isk ln' sp' ls' ld' tb rd und (iI (-1)) (iI (-1)) ak' vn' dy' asd' lma' lim' rea' sts' apr' tz spo wro num nuA stl spe wan fou)))
set_option maxRecDepth 20000 in
theorem v_mlaysLoads (l : Launch) : z_V l 201 sp_mlaysLoads := by
  refine z_V.ofP (by decide +kernel) ?_
  rintro as σ K Post ⟨now, was, kept, isk, ln, sp, ls, ld, tb, rd, und, gon, lef, ak, vn, dy, asd, lma, lim, rea, sts, apr, tz, spo, wro, num, nuA, stl, spe, wan, fou, M, rfl, rfl, hN, hO, hK⟩ hP1 hP0
  have hx5 := hO.mx 5 (by omega)
  have hx4 := hO.mx 4 (by omega)
  have outer : ∀ (n i : Nat) (x1 : Int32) (v2 : Option Value) (sp ls ln ld : Nat → Int32) (ak vn dy asd lma lim rea sts apr : Int32), n = M.1 5 - i → i ≤ M.1 5 → x1 = iI (i : Int) → (∀ c p, c < 3 → p < 16 → ld (16 * c + p) = iI (tlF M c p i : Nat)) →
      AW l 201 34 0 0 11 none Post 23 [some (.ref 0), some (.int x1), v2] [] (wMd now was kept isk ln sp ls ld tb rd und (iI (-1)) (iI (-1)) ak vn dy asd lma lim rea sts apr tz spo wro num nuA stl spe wan fou) 0 0 := by
    intro n
    induction n using Nat.strongRecOn with
    | ind n ih =>
      intro i x1 v2 sp ls ln ld ak vn dy asd lma lim rea sts apr hn hi e1 hld
      subst e1
      have inner : ∀ (q k : Nat) (x2 : Int32) (sp ls ln ld : Nat → Int32) (ak vn dy asd lma lim rea : Int32), i < M.1 5 → recd M i = false → q = (rq M i).length - k → k ≤ (rq M i).length → x2 = iI (k : Int) → RR sp ls (wq M i) (rq M i) → (∀ c p, c < 3 → p < 16 → ld (16 * c + p) = iI (tlF M c p i + (cntL (wq M i) c p (rq M i) - cntL (wq M i) c p ((rq M i).drop k)) : Nat)) → (∀ (c : Int) p, cntL (wq M i) c p ((rq M i).drop k) ≤ cntL (wq M i) c p (rq M i)) →
          AW l 201 34 0 0 11 none Post 49 [some (.ref 0), some (.int (iI (i : Int))), some (.int x2)] [] (wMd now was kept isk ln sp ls ld tb rd und (iI (-1)) (iI (-1)) ak vn dy asd lma lim rea (iI (rq M i).length) (bI (decide (lC (rq M i) (wq M i) 4 = 0))) tz spo wro num nuA stl spe wan fou) 0 0 := by
        intro q
        induction q using Nat.strongRecOn with
        | ind q ihq =>
          intro k x2 sp ls ln ld ak vn dy asd lma lim rea hr hrec hq hk e2 hRR hld hle
          subst e2
          have hqo := rq_ok hO hr
          have hl12 := hqo.2
          refine AW.go (bs := b_Mod_laysLoads) [23, 49] 70 t_Mod_laysLoads ?_
          refine And.intro (fun h => ?_) (fun h => ?_)
          · rw [zc_ge (by omega) (by omega) (by omega) (by omega)] at h
            refine ih _ (by omega) (i + 1) _ _ _ _ _ _ _ _ _ _ _ _ _ _ _ rfl (by omega) (zn_inc i) (fun c p hc hp => ?_)
            rw [hld c p hc hp, tlF, hrec, List.drop_eq_nil_of_le (by omega), cntL]; rfl
          rw [zc_ge (by omega) (by omega) (by omega) (by omega)] at h
          obtain ⟨e, he⟩ : ∃ e, (rq M i)[k]? = some e := ⟨_, List.getElem?_eq_getElem (by omega)⟩
          have hdrop : (rq M i).drop k = e :: (rq M i).drop (k + 1) := by rw [List.drop_eq_getElem_cons (by omega), (List.getElem?_eq_some_iff.mp he).2]
          have nxt : ∀ (c : Int) p, cntL (wq M i) c p ((rq M i).drop k) = (if ctE (wq M i) c p e then 1 else 0) + cntL (wq M i) c p ((rq M i).drop (k + 1)) := fun c p => by rw [hdrop, cntL]
          have e6 : z_nn 6 0 * iI (k : Int) = iI ((6 * k : Nat) : Int) := by rw [zn_i, iI_mul]; rfl
          show ∃ sp : Sp, _
          rw [e6]
          refine ⟨_, v_mcounts l, by decide, _, _, _, _, _, _, _, _, _, _, _, _, _, _, _, _, _, _, _, _, _, _, _, _, _, _, _, _, _, _, _, wq M i, rq M i, k, e, fun c p => tlF M c p i + (cntL (wq M i) c p (rq M i) - cntL (wq M i) c p ((rq M i).drop k)), rfl, rfl, hRR, hl12, he, hqo.1 e (List.mem_of_getElem? he), fun c p hc hp => ⟨hld c p hc hp, ?_⟩, fun ld' hld' => ?_⟩
          · have h1 := tlF_le hO c p i (by omega)
            have h2 := cntL_le (wq M i) c p (rq M i)
            show tlF M c p i + (cntL (wq M i) c p (rq M i) - cntL (wq M i) c p ((rq M i).drop k)) ≤ 1000
            omega
          · refine ihq _ (by omega) (k + 1) _ _ _ _ _ _ _ _ _ _ _ _ hr hrec rfl (by omega) (zn_inc k) hRR (fun c p hc hp => ?_) (fun c p => by have := hle c p; rw [nxt c p] at this; omega)
            rw [hld' c p hc hp]
            have h1 := hle c p
            have h2 := nxt c p
            congr 1
            show ((tlF M (c : Int) p i + (cntL (wq M i) c p (rq M i) - cntL (wq M i) c p ((rq M i).drop k)) + (if ctE (wq M i) c p e = true then 1 else 0) : Nat) : Int) = _
            by_cases hce : ctE (wq M i) c p e = true
            · rw [if_pos hce] at h2 ⊢; omega
            · rw [if_neg hce] at h2 ⊢; omega
      refine AW.go (bs := b_Mod_laysLoads) [23, 49] 70 t_Mod_laysLoads ?_
      refine ⟨_, v_mrequests l, by decide, _, _, _, _, _, _, _, _, _, _, _, _, _, _, _, _, _, _, _, _, _, _, _, _, _, _, _, _, _, _, _, M, rfl, hN, hO, rfl, ?_⟩
      refine And.intro (fun h => ?_) (fun h => ?_)
      · rw [zc_ge (by omega) (by omega) (by omega) (by omega)] at h
        have : i = M.1 5 := by omega
        subst this
        exact hP1 _ _ (hK _ _ _ _ _ _ _ _ _ _ _ _ _ hld)
      rw [zc_ge (by omega) (by omega) (by omega) (by omega)] at h
      have hr : i < M.1 5 := by omega
      have hc := hO.2.2.2.2.2.1 i hr
      refine ⟨_, v_misRecalled l, by decide, _, _, _, _, _, _, _, _, _, _, _, _, _, _, _, _, _, _, _, _, _, _, _, _, _, _, _, _, _, _, _, M, rfl, hN, hO, i, rfl, hr, ?_⟩
      refine And.symm (And.intro (fun h => ?_) (fun h => ?_))
      · rw [zc_beq, Bool.not_eq_false] at h
        refine ih _ (by omega) (i + 1) _ _ _ _ _ _ _ _ _ _ _ _ _ _ _ rfl (by omega) (zn_inc i) (fun c p hc hp => ?_)
        rw [hld c p hc hp, tlF, h]; rfl
      rw [zc_beq] at h
      refine ⟨_, v_mroutes l, by decide, _, _, _, _, _, _, _, _, _, _, _, 0, 0, _, _, _, _, _, _, _, _, _, _, _, _, _, _, _, _, _, _, M, i, -1, -1, rfl, rfl, hN, hO, hr, ⟨by omega, by omega⟩, ⟨by omega, by omega⟩, fun sp' ls' ln' ak' vn' dy' asd' lma' lim' rea' sts' apr' hrt => ?_⟩
      obtain ⟨hRR, hs', ha'⟩ := hrt
      have hs2 : sts' = iI ((rq M i).length : Int) := hs'
      have ha2 : apr' = bI (decide (lC (rq M i) (wq M i) 4 = 0)) := ha'
      subst hs2; subst ha2
      refine inner _ 0 _ _ _ _ _ _ _ _ _ _ _ _ hr h rfl (by omega) rfl hRR (fun c p hc hp => ?_) (fun c p => Nat.le_refl _)
      rw [hld c p hc hp, List.drop_zero, Nat.sub_self, Nat.add_zero]
  have clr : ∀ (n k : Nat) (x1 : Int32) (ld : Nat → Int32), n = 48 - k → k ≤ 48 → x1 = iI (k : Int) → (∀ j, j < k → ld j = iI 0) →
      AW l 201 34 0 0 11 none Post 2 [some (.ref 0), some (.int x1), none] [] (wMd now was kept isk ln sp ls ld tb rd und (iI (-1)) (iI (-1)) ak vn dy asd lma lim rea sts apr tz spo wro num nuA stl spe wan fou) 0 0 := by
    intro n
    induction n using Nat.strongRecOn with
    | ind n ih =>
      intro k x1 ld hn hk e1 h0
      subst e1
      refine AW.go (bs := b_Mod_laysLoads) [2, 23] 70 t_Mod_laysLoads ?_
      refine And.intro (fun h => ?_) (fun h => ?_)
      · rw [zn_i, zc_ge (by omega) (by omega) (by omega) (by omega)] at h
        refine outer _ 0 _ _ _ _ _ _ _ _ _ _ _ _ _ _ _ rfl (by omega) rfl (fun c p hc hp => ?_)
        rw [h0 _ (by omega)]; rfl
      rw [zn_i, zc_ge (by omega) (by omega) (by omega) (by omega)] at h
      refine And.intro (zN_in (by omega) (by omega)) ?_
      show AW _ _ _ _ _ _ _ _ _ _ _ _ _ _
      rw [zN_cl (by omega)]
      refine ih _ (by omega) (k + 1) _ _ rfl (by omega) (zn_inc k) (fun j hj => ?_)
      unfold upd
      split
      · rfl
      · exact h0 j (by omega)
  refine AW.go (bs := b_Mod_laysLoads) [2] 70 t_Mod_laysLoads ?_
  exact clr _ 0 _ _ rfl (by omega) rfl (fun j hj => by omega)
set_option maxRecDepth 20000 in
theorem v_mload (l : Launch) : z_V l 203 (m2 40 (qp2 q_load)) := by
  refine z_V.ofP (by decide +kernel) ?_
  rintro as σ K Post ⟨S, ⟨hOS, now, was, kept, isk, ln, sp, ls, ld, tb, rd, und, gon, lef, ak, vn, dy, asd, lma, lim, rea, sts, apr, tz, spo, wro, num, nuA, stl, spe, wan, fou, rfl, hMR⟩, p, c, rfl, ⟨p1, p2⟩, ⟨c1, c2⟩, hK⟩ hP1 hP0
  obtain ⟨hN, h2_, rfl, h4_, h5_, h6_, h7_, rfl, rfl, rfl, h11_⟩ := id hMR
  have hO := hOS.1
  have hx4 := hO.2.2.2.2.2.2.2.2.2 4 (by omega)
  rw [x_4] at hx4
  have hx5 := hO.2.2.2.2.2.2.2.2.2 5 (by omega)
  rw [x_5] at hx5
  unfold qp2 q_load at hK
  simp only [] at hK
  have fail : Unit → ¬ (0 ≤ p ∧ p ≤ 15 ∧ 0 ≤ c ∧ c ≤ 2) → Post (some (.int (iI (-1)))) (wMd now was kept isk ln sp ls ld tb rd (iI S.2.1.length) (iI (-1)) (iI (-1)) ak vn dy asd lma lim rea sts apr (iI S.2.2.2.1) spo wro num nuA stl spe wan fou) := by
    intro _ hn; rw [if_neg hn] at hK; exact hP1 _ _ (hK _ (isMd.mk hOS hMR))
  refine AW.go (bs := b_Mod_load) [] 60 t_Mod_load ?_
  refine ⟨_, v_misPerson l, by decide, rfl, p, rfl, ⟨p1, p2⟩, ?_⟩
  refine And.intro (fun h => ?_) (fun h => ?_)
  · rw [zc_beq, decide_eq_false_iff_not] at h; exact fail () (by omega)
  rw [zc_beq, decide_eq_false_iff_not, Classical.not_not] at h
  refine ⟨_, v_in l, by decide, rfl, c, 0, 2, _, _, _, rfl, l_i c1 c2, l_0, l_k 2, ⟨by omega, by omega⟩, ⟨by omega, by omega⟩, ⟨by omega, by omega⟩, ?_⟩
  refine And.symm (And.intro (fun h => ?_) (fun h => ?_))
  · rw [zc_bne, decide_eq_true_eq] at h; exact fail () (by omega)
  rw [zc_bne, decide_eq_true_eq] at h
  rw [if_pos (by omega)] at hK
  obtain ⟨j, rfl⟩ : ∃ j : Nat, p = (j : Int) := ⟨p.toNat, by omega⟩
  obtain ⟨d, rfl⟩ : ∃ d : Nat, c = (d : Int) := ⟨c.toNat, by omega⟩
  rw [Int.toNat_natCast] at hK
  refine ⟨_, v_mlaysLoads l, by decide, _, _, _, _, _, _, _, _, _, _, _, 0, 0, _, _, _, _, _, _, _, _, _, _, _, _, _, _, _, _, _, _, S.1, rfl, rfl, hN, hO, fun sp ls ln ld ak vn dy asd lma lim rea sts apr hld => ?_⟩
  have ei : z_nn 16 0 * iI (d : Int) + iI (j : Int) = iI ((16 * d + j : Nat) : Int) := by rw [zn_i, iI_mul, iI_add]; rfl
  show _ ∧ _
  rw [ei]
  refine And.intro (zN_in (by omega) (by omega)) ?_
  show Post _ _
  rw [zN_cl (by omega), hld d j (by omega) (by omega)]
  exact hP1 _ _ (hK _ (isMd.mk hOS hMR))
/-- the one with most so far, as the model has it -/
def bmF (T : Nat → Nat) : Nat → Int
  | 0 => -2
  | k + 1 => if T (btF T k) = 0 then -2 else (btF T k : Int)
theorem bmF_step (T : Nat → Nat) (k : Nat) : bmF T (k + 1) = if T k ≠ 0 ∧ (bmF T k = -2 ∨ T (bmF T k).toNat < T k) then (k : Int) else bmF T k := by
  cases k with
  | zero =>
    simp only [bmF, btF]
    by_cases h : T 0 = 0
    · simp [h]
    · simp [h]
  | succ k =>
    have hb : btF T (k + 1) = if T (btF T k) < T (k + 1) then k + 1 else btF T k := rfl
    show (if T (btF T (k + 1)) = 0 then -2 else (btF T (k + 1) : Int)) = if T (k + 1) ≠ 0 ∧ ((if T (btF T k) = 0 then -2 else (btF T k : Int)) = -2 ∨ T (if T (btF T k) = 0 then -2 else (btF T k : Int)).toNat < T (k + 1)) then ((k + 1 : Nat) : Int) else (if T (btF T k) = 0 then -2 else (btF T k : Int))
    by_cases h : T (btF T k) = 0
    · rw [if_pos h]
      by_cases h2 : T (k + 1) = 0
      · have e : btF T (k + 1) = btF T k := by rw [hb, if_neg (by omega)]
        rw [e, if_pos h, if_neg (fun q => q.1 h2)]
      · have e : btF T (k + 1) = k + 1 := by rw [hb, if_pos (by omega)]
        rw [e, if_neg h2, if_pos ⟨h2, Or.inl rfl⟩]
    · rw [if_neg h, Int.toNat_natCast]
      by_cases h2 : T (btF T k) < T (k + 1)
      · have e : btF T (k + 1) = k + 1 := by rw [hb, if_pos h2]
        rw [e, if_neg (by omega), if_pos ⟨by omega, Or.inr h2⟩]
      · have e : btF T (k + 1) = btF T k := by rw [hb, if_neg h2]
        rw [e, if_neg h, if_neg (fun q => q.2.elim (fun w => by omega) h2)]
theorem bmF_rng (T : Nat → Nat) : ∀ k, -2 ≤ bmF T k ∧ bmF T k < k ∧ bmF T k ≠ -1 ∧ (bmF T k ≠ -2 → T (bmF T k).toNat ≠ 0)
  | 0 => by simp [bmF]
  | k + 1 => by
    have := btF_le T k
    have e : bmF T (k + 1) = if T (btF T k) = 0 then -2 else (btF T k : Int) := rfl
    rw [e]
    by_cases h : T (btF T k) = 0
    · rw [if_pos h]; exact ⟨by omega, by omega, by omega, fun q => absurd rfl q⟩
    · rw [if_neg h]; exact ⟨by omega, by omega, by omega, fun _ => by rw [Int.toNat_natCast]; exact h⟩
theorem ofT_bm (T : Nat → Nat) (c : Int) : ofT T c = if c = 0 ∨ bmF T 16 = -2 then bmF T 16 else (T (bmF T 16).toNat : Int) := by
  unfold ofT
  show _ = if c = 0 ∨ (if T (btF T 15) = 0 then -2 else (btF T 15 : Int)) = -2 then (if T (btF T 15) = 0 then -2 else (btF T 15 : Int)) else (T (if T (btF T 15) = 0 then (-2 : Int) else (btF T 15 : Int)).toNat : Int)
  by_cases h : T (btF T 15) = 0
  · simp [h]
  · simp only [h, if_false, Int.toNat_natCast]
    by_cases hc : c = 0
    · simp [hc]
    · rw [if_neg hc, if_neg (by omega)]
set_option maxRecDepth 20000 in
theorem v_mbusiest (l : Launch) : z_V l 204 (m1 40 (qp q_busiest)) := by
  refine z_V.ofP (by decide +kernel) ?_
  rintro as σ K Post ⟨S, ⟨hOS, now, was, kept, isk, ln, sp, ls, ld, tb, rd, und, gon, lef, ak, vn, dy, asd, lma, lim, rea, sts, apr, tz, spo, wro, num, nuA, stl, spe, wan, fou, rfl, hMR⟩, c, rfl, ⟨c1, c2⟩, hK⟩ hP1 hP0
  obtain ⟨hN, h2_, rfl, h4_, h5_, h6_, h7_, rfl, rfl, rfl, h11_⟩ := id hMR
  have hO := hOS.1
  have hx4 := hO.2.2.2.2.2.2.2.2.2 4 (by omega)
  rw [x_4] at hx4
  have hx5 := hO.2.2.2.2.2.2.2.2.2 5 (by omega)
  rw [x_5] at hx5
  unfold qp q_busiest at hK
  simp only [] at hK
  refine AW.go (bs := b_Mod_busiest) [21] 60 t_Mod_busiest ?_
  refine ⟨_, v_in l, by decide, rfl, c, 0, 1, _, _, _, rfl, l_i c1 c2, l_0, l_1, ⟨by omega, by omega⟩, ⟨by omega, by omega⟩, ⟨by omega, by omega⟩, ?_⟩
  refine And.symm (And.intro (fun h => ?_) (fun h => ?_))
  · rw [zc_bne, decide_eq_true_eq] at h
    rw [if_neg h] at hK
    exact hP1 _ _ (hK _ (isMd.mk hOS hMR))
  rw [zc_bne, decide_eq_true_eq] at h
  rw [if_pos h, ofT_bm] at hK
  refine ⟨_, v_mlaysLoads l, by decide, _, _, _, _, _, _, _, _, _, _, _, 0, 0, _, _, _, _, _, _, _, _, _, _, _, _, _, _, _, _, _, _, S.1, rfl, rfl, hN, hO, fun sp ls ln ld ak vn dy asd lma lim rea sts apr hld0 => ?_⟩
  have hld : ∀ p, p < 16 → ld p = iI ((fun p => tlF S.1 0 p (S.1.1 5)) p : Nat) := fun p hp => by have := hld0 0 p (by omega) hp; rw [show 16 * 0 + p = p by omega] at this; exact this
  have hT : ∀ p, (fun p => tlF S.1 0 p (S.1.1 5)) p ≤ 480 := fun p => by have := tlF_le hO 0 p (S.1.1 5) (Nat.le_refl _); show tlF S.1 0 p (S.1.1 5) ≤ 480; omega
  obtain ⟨T, hTe⟩ : ∃ T : Nat → Nat, T = fun p => tlF S.1 0 p (S.1.1 5) := ⟨_, rfl⟩
  rw [← hTe] at hld hT hK
  have loop : ∀ (n k : Nat) (x2 x3 : Int32), n = 16 - k → k ≤ 16 → x2 = iI (bmF T k) → x3 = iI (k : Int) →
      AW l 204 40 0 0 11 none Post 21 [some (.ref 0), some (.int (iI c)), some (.int x2), some (.int x3)] [] (wMd now was kept isk ln sp ls ld tb rd (iI S.2.1.length) (iI (-1)) (iI (-1)) ak vn dy asd lma lim rea sts apr (iI S.2.2.2.1) spo wro num nuA stl spe wan fou) 0 0 := by
    intro n
    induction n using Nat.strongRecOn with
    | ind n ih =>
      intro k x2 x3 hn hk e2 e3
      subst e2; subst e3
      have hb := bmF_rng T k
      refine AW.go (bs := b_Mod_busiest) [21] 60 t_Mod_busiest ?_
      refine And.intro (fun h2 => ?_) (fun h2 => ?_)
      · rw [zn_i, zc_ge (by omega) (by omega) (by omega) (by omega)] at h2
        have : k = 16 := by omega
        subst this
        refine And.intro (fun h3 => ?_) (fun h3 => ?_)
        · rw [zc_eq0 c1 c2] at h3
          rw [if_pos (Or.inl h3)] at hK
          exact hP1 _ _ (hK _ (isMd.mk hOS hMR))
        rw [zc_eq0 c1 c2] at h3
        refine And.symm (And.intro (fun h4 => ?_) (fun h4 => ?_))
        · have h4 := (zc_eq (b := -2) (by omega) (by omega) (by omega) (by omega)).mp (Classical.not_not.mp h4)
          rw [if_pos (Or.inr h4)] at hK
          exact hP1 _ _ (hK _ (isMd.mk hOS hMR))
        · have h4 := mt (zc_eq (a := bmF T 16) (b := -2) (by omega) (by omega) (by omega) (by omega)).mpr (fun q => h4 q)
          rw [if_neg (fun q => q.elim h3 h4)] at hK
          obtain ⟨b, hbe⟩ : ∃ b : Nat, bmF T 16 = (b : Int) := ⟨(bmF T 16).toNat, by omega⟩
          rw [hbe, Int.toNat_natCast] at hK
          show _ ∧ _
          rw [hbe]
          refine And.intro (zN_in (by omega) (by omega)) ?_
          show Post _ _
          rw [zN_cl (by omega), hld b (by omega)]
          rw [show T b = tlF S.1 0 b (S.1.1 5) from by rw [hTe]]
          exact hP1 _ _ (hK _ (isMd.mk hOS hMR))
      rw [zn_i, zc_ge (by omega) (by omega) (by omega) (by omega)] at h2
      have hTk := hT k
      have es := bmF_step T k
      refine And.intro (zN_in (by omega) (by omega)) ?_
      show _ ∧ _
      rw [zN_cl (by omega), hld k (by omega)]
      refine And.intro (fun h3 => ?_) (fun h3 => ?_)
      · rw [zc_le0 (by omega) (by omega)] at h3
        exact ih _ (by omega) (k + 1) _ _ rfl (by omega) (by rw [es, if_neg (fun q => q.1 (by omega))]) (zn_inc k)
      rw [zc_le0 (by omega) (by omega)] at h3
      refine And.intro (fun h4 => ?_) (fun h4 => ?_)
      · have h4 := (zc_eq (b := -2) (by omega) (by omega) (by omega) (by omega)).mp h4
        exact ih _ (by omega) (k + 1) _ _ rfl (by omega) (by rw [es, if_pos ⟨by omega, Or.inl h4⟩]) (zn_inc k)
      have h4 := mt (zc_eq (a := bmF T k) (b := -2) (by omega) (by omega) (by omega) (by omega)).mpr h4
      obtain ⟨b, hbe⟩ : ∃ b : Nat, bmF T k = (b : Int) := ⟨(bmF T k).toNat, by omega⟩
      rw [hbe] at es h4
      have hTb := hT b
      refine And.intro (zN_in (by omega) (by omega)) ?_
      show _ ∧ _
      rw [hbe]
      refine And.intro (zN_in (by omega) (by omega)) ?_
      show _ ∧ _
      rw [zN_cl (by omega), zN_cl (by omega), hld k (by omega), hld b (by omega)]
      rw [Int.toNat_natCast] at es
      refine And.intro (fun h5 => ?_) (fun h5 => ?_)
      · rw [zc_le (by omega) (by omega) (by omega) (by omega)] at h5
        exact ih _ (by omega) (k + 1) _ _ rfl (by omega) (by rw [es, if_neg (fun q => by omega)]) (zn_inc k)
      · rw [zc_le (by omega) (by omega) (by omega) (by omega)] at h5
        exact ih _ (by omega) (k + 1) _ _ rfl (by omega) (by rw [es, if_pos ⟨by omega, Or.inr (by omega)⟩]) (zn_inc k)
  exact loop _ 0 _ _ rfl (by omega) rfl rfl
