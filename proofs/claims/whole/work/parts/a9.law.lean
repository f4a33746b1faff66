/-! the law's loop -/
set_option maxRecDepth 20000 in
theorem ior (x : Int32) : x = x := rfl
set_option maxRecDepth 20000 in
theorem law_sw (l : Launch) {Post : Option Value → List AE → Prop} {S : St} {N i : Nat} {X : Nat → Int} (hX : ∀ k, ir (X k)) (h6 : i + 6 ≤ N) (hN : N ≤ 3072) {σ : List AE} (hσ : LW S σ) (next : ∀ (S' : St) (σ : List AE), LW S' σ → LAt l N X Post i 1780 σ) : LAt l N X Post i 27 σ := by
  refine AW.go (bs := bLs) [1780, 220, 283, 306, 319, 382, 415, 458, 511, 554, 617, 650, 683, 726, 759, 772, 795, 818, 851, 894, 927, 951, 994, 1037, 1070, 1123, 1166, 1189, 1212, 1255, 1288, 1321, 1354, 1377, 1400, 1423, 1476, 1499, 1552, 1595, 1618, 1671, 1734, 1757] 80 tLs ?_
  refine And.intro (zN_in (by omega) (by omega)) ?_
  refine And.intro (fun _ => next S σ hσ) ?_
  exact (And.intro (fun _ => law_0 l hX h6 hN hσ next) (And.intro (fun _ => law_1 l hX h6 hN hσ next) (And.intro (fun _ => law_2 l hX h6 hN hσ next) (And.intro (fun _ => law_3 l hX h6 hN hσ next) (And.intro (fun _ => law_4 l hX h6 hN hσ next) (And.intro (fun _ => law_5 l hX h6 hN hσ next) (And.intro (fun _ => law_6 l hX h6 hN hσ next) (And.intro (fun _ => law_7 l hX h6 hN hσ next) (And.intro (fun _ => law_8 l hX h6 hN hσ next) (And.intro (fun _ => law_9 l hX h6 hN hσ next) (And.intro (fun _ => law_10 l hX h6 hN hσ next) (And.intro (fun _ => law_11 l hX h6 hN hσ next) (And.intro (fun _ => law_12 l hX h6 hN hσ next) (And.intro (fun _ => law_13 l hX h6 hN hσ next) (And.intro (fun _ => law_14 l hX h6 hN hσ next) (And.intro (fun _ => law_15 l hX h6 hN hσ next) (And.intro (fun _ => law_16 l hX h6 hN hσ next) (And.intro (fun _ => law_17 l hX h6 hN hσ next) (And.intro (fun _ => law_18 l hX h6 hN hσ next) (And.intro (fun _ => law_19 l hX h6 hN hσ next) (And.intro (fun _ => law_20 l hX h6 hN hσ next) (And.intro (fun _ => law_21 l hX h6 hN hσ next) (And.intro (fun _ => law_22 l hX h6 hN hσ next) (And.intro (fun _ => law_23 l hX h6 hN hσ next) (And.intro (fun _ => law_24 l hX h6 hN hσ next) (And.intro (fun _ => law_25 l hX h6 hN hσ next) (And.intro (fun _ => law_26 l hX h6 hN hσ next) (And.intro (fun _ => law_27 l hX h6 hN hσ next) (And.intro (fun _ => law_28 l hX h6 hN hσ next) (And.intro (fun _ => law_29 l hX h6 hN hσ next) (And.intro (fun _ => law_30 l hX h6 hN hσ next) (And.intro (fun _ => law_31 l hX h6 hN hσ next) (And.intro (fun _ => law_32 l hX h6 hN hσ next) (And.intro (fun _ => law_33 l hX h6 hN hσ next) (And.intro (fun _ => law_34 l hX h6 hN hσ next) (And.intro (fun _ => law_35 l hX h6 hN hσ next) (And.intro (fun _ => law_36 l hX h6 hN hσ next) (And.intro (fun _ => law_37 l hX h6 hN hσ next) (And.intro (fun _ => law_38 l hX h6 hN hσ next) (And.intro (fun _ => law_39 l hX h6 hN hσ next) (And.intro (fun _ => law_40 l hX h6 hN hσ next) (And.intro (fun _ => law_41 l hX h6 hN hσ next) (And.intro (fun _ => law_42 l hX h6 hN hσ next) trivial)))))))))))))))))))))))))))))))))))))))))))
set_option maxRecDepth 20000 in
theorem law_loop (l : Launch) {N : Nat} {X : Nat → Int} (hX : ∀ k, ir (X k)) (hN : N ≤ 3072) : ∀ (n i : Nat) (S : St) (σ : List AE) (x : Int32), n = N + 6 - i → i ≤ N + 6 → x = iI (i : Int) → LW S σ → AW l 279 50 86 20019 0 (some (N, fun k => iI (X k))) (fun r _ => r = some (.int 1)) 18 [some (.ref 4000), some (.ref 0), some (.ref 75), some (.int x)] [] σ 86 20019 := by
  intro n
  induction n using Nat.strongRecOn with
  | ind n ih =>
    intro i S σ x hn hi hx hσ
    subst hx
    refine AW.go (bs := bLh ++ bLt) [27] 80 (z_chk_app tLh tLt) ?_
    refine And.intro hN ?_
    show _ ∧ _
    rw [iI_nI, zn_i, iI_sub]
    refine And.intro (fun h => ?_) (fun h => ?_)
    · obtain ⟨f_, s_, t_, f1_, s1_, t1_, f2_, s2_, t2_, tb_, f3_, s3_, t3_, nu_, ln_, sp_, ls_, g_, ta_, pl_, pf_, ps_, pt_, fi_, hz_, ks_, tz_, ra_, rf_, rt_, la_, lb_, lc_, mp_, mv_, mk_, mo_, my_, mw_, ma_, ml_, ak_, dy_, br_, ad_, dp_, lm_, rs_, len_, nowm, wasm, keptm, iskm, lnm, spm, lsm, ldm, tbm, rdm, undm, gonm, lefm, akm, vnm, dym, asdm, lmam, limm, ream, stsm, aprm, tzm, spom, wrom, numm, nuAm, stlm, spem, wanm, foum, rfl, hA, hM⟩ := hσ
      exact And.intro (Or.inr rfl) rfl
    · rw [zc_gt (by omega) (by omega) (by omega) (by omega)] at h
      refine law_sw l hX (by omega) hN hσ (fun S' σ' hσ' => ?_)
      refine AW.go (bs := bLt) [18] 80 tLt ?_
      have e : iI (i : Int) + z_nn 6 0 = iI ((i + 6 : Nat) : Int) := by rw [zn_i, iI_add]; rfl
      exact ih _ (by omega) (i + 6) S' σ' _ rfl (by omega) e hσ'
/-! the law's start: both are made -/
set_option maxRecDepth 20000 in
theorem wbI0 (k : List AE → Prop) (f_ s_ t_ f1_ s1_ t1_ f2_ s2_ t2_ tb_ f3_ s3_ t3_ nu_ ln_ sp_ ls_ g_ ta_ pl_ : Nat → Int32) (pf_ ps_ pt_ : Nat → Nat → Int32) (fi_ hz_ ks_ tz_ ra_ rf_ rt_ la_ lb_ lc_ mp_ mv_ mk_ mo_ my_ mw_ ma_ ml_ ak_ dy_ br_ ad_ dp_ lm_ rs_ len_ : Int32) : z_wbK (z_fwK ([0] ++ List.range' 1 74) 1) [0] newA (wA f_ s_ t_ f1_ s1_ t1_ f2_ s2_ t2_ tb_ f3_ s3_ t3_ nu_ ln_ sp_ ls_ g_ ta_ pl_ pf_ ps_ pt_ fi_ hz_ ks_ tz_ ra_ rf_ rt_ la_ lb_ lc_ mp_ mv_ mk_ mo_ my_ mw_ ma_ ml_ ak_ dy_ br_ ad_ dp_ lm_ rs_ len_) k = k (wA f_ s_ t_ f1_ s1_ t1_ f2_ s2_ t2_ tb_ f3_ s3_ t3_ nu_ ln_ sp_ ls_ g_ ta_ pl_ pf_ ps_ pt_ fi_ hz_ ks_ tz_ ra_ rf_ rt_ la_ lb_ lc_ mp_ mv_ mk_ mo_ my_ mw_ ma_ ml_ ak_ dy_ br_ ad_ dp_ lm_ rs_ len_) := rfl
set_option maxRecDepth 20000 in
theorem wbI1 (k : List AE → Prop) (f_ s_ t_ f1_ s1_ t1_ f2_ s2_ t2_ tb_ f3_ s3_ t3_ nu_ ln_ sp_ ls_ g_ ta_ pl_ : Nat → Int32) (pf_ ps_ pt_ : Nat → Nat → Int32) (fi_ hz_ ks_ tz_ ra_ rf_ rt_ la_ lb_ lc_ mp_ mv_ mk_ mo_ my_ mw_ ma_ ml_ ak_ dy_ br_ ad_ dp_ lm_ rs_ len_ : Int32) (nowm wasm keptm iskm lnm spm lsm ldm tbm rdm : Nat → Int32) (undm gonm lefm akm vnm dym asdm lmam limm ream stsm aprm tzm spom wrom numm nuAm stlm spem wanm foum : Int32) : z_wbK (z_fwK ([75] ++ List.range' 76 10) 76) [75] ((wA f_ s_ t_ f1_ s1_ t1_ f2_ s2_ t2_ tb_ f3_ s3_ t3_ nu_ ln_ sp_ ls_ g_ ta_ pl_ pf_ ps_ pt_ fi_ hz_ ks_ tz_ ra_ rf_ rt_ la_ lb_ lc_ mp_ mv_ mk_ mo_ my_ mw_ ma_ ml_ ak_ dy_ br_ ad_ dp_ lm_ rs_ len_) ++ newM) (wMd nowm wasm keptm iskm lnm spm lsm ldm tbm rdm undm gonm lefm akm vnm dym asdm lmam limm ream stsm aprm tzm spom wrom numm nuAm stlm spem wanm foum) k = k (wL f_ s_ t_ f1_ s1_ t1_ f2_ s2_ t2_ tb_ f3_ s3_ t3_ nu_ ln_ sp_ ls_ g_ ta_ pl_ pf_ ps_ pt_ fi_ hz_ ks_ tz_ ra_ rf_ rt_ la_ lb_ lc_ mp_ mv_ mk_ mo_ my_ mw_ ma_ ml_ ak_ dy_ br_ ad_ dp_ lm_ rs_ len_ nowm wasm keptm iskm lnm spm lsm ldm tbm rdm undm gonm lefm akm vnm dym asdm lmam limm ream stsm aprm tzm spom wrom numm nuAm stlm spem wanm foum) := rfl
set_option maxRecDepth 20000 in
theorem law_start (l : Launch) {N : Nat} {X : Nat → Int} (hX : ∀ k, ir (X k)) (hN : N ≤ 3072) : AW l 279 50 86 20019 0 (some (N, fun k => iI (X k))) (fun r _ => r = some (.int 1)) 0 [some (.ref 4000), none, none, none] [] [] 0 0 := by
  refine AW.go (bs := bLh) [18] 80 tLh ?_
  refine ⟨_, v_apprInit l, by decide, rfl, rfl, fun f_ s_ t_ f1_ s1_ t1_ f2_ s2_ t2_ tb_ f3_ s3_ t3_ nu_ ln_ sp_ ls_ g_ ta_ pl_ pf_ ps_ pt_ fi_ hz_ ks_ tz_ ra_ rf_ rt_ la_ lb_ lc_ mp_ mv_ mk_ mo_ my_ mw_ ma_ ml_ ak_ dy_ br_ ad_ dp_ lm_ rs_ len_ hAR => ?_⟩
  refine ⟨_, v_modInit l, by decide, rfl, rfl, fun nowm wasm keptm iskm lnm spm lsm ldm tbm rdm undm gonm lefm akm vnm dym asdm lmam limm ream stsm aprm tzm spom wrom numm nuAm stlm spem wanm foum hMR => ?_⟩
  exact law_loop l hX hN _ 0 st0 _ _ rfl (by omega) rfl ⟨_, _, _, _, _, _, _, _, _, _, _, _, _, _, _, _, _, _, _, _, _, _, _, _, _, _, _, _, _, _, _, _, _, _, _, _, _, _, _, _, _, _, _, _, _, _, _, _, _, _, _, _, _, _, _, _, _, _, _, _, _, _, _, _, _, _, _, _, _, _, _, _, _, _, _, _, _, _, _, _, rfl, isA.mk st0_ok hAR, isMd.mk st0_ok hMR⟩
