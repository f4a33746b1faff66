set_option maxRecDepth 20000 in
theorem law_22 (l : Launch) {Post : Option Value → List AE → Prop} {S : St} {N i : Nat} {X : Nat → Int} (hX : ∀ k, ir (X k)) (hi : i + 6 ≤ N) (hN : N ≤ 3072) {f_ s_ t_ f1_ s1_ t1_ f2_ s2_ t2_ tb_ f3_ s3_ t3_ nu_ ln_ sp_ ls_ g_ ta_ pl_ : Nat → Int32} {pf_ ps_ pt_ : Nat → Nat → Int32} {fi_ hz_ ks_ tz_ ra_ rf_ rt_ la_ lb_ lc_ mp_ mv_ mk_ mo_ my_ mw_ ma_ ml_ ak_ dy_ br_ ad_ dp_ lm_ rs_ len_ : Int32} {nowm wasm keptm iskm lnm spm lsm ldm tbm rdm : Nat → Int32} {undm gonm lefm akm vnm dym asdm lmam limm ream stsm aprm tzm spom wrom numm nuAm stlm spem wanm foum : Int32} (hA : isA S (wA f_ s_ t_ f1_ s1_ t1_ f2_ s2_ t2_ tb_ f3_ s3_ t3_ nu_ ln_ sp_ ls_ g_ ta_ pl_ pf_ ps_ pt_ fi_ hz_ ks_ tz_ ra_ rf_ rt_ la_ lb_ lc_ mp_ mv_ mk_ mo_ my_ mw_ ma_ ml_ ak_ dy_ br_ ad_ dp_ lm_ rs_ len_)) (hM : isMd S (wMd nowm wasm keptm iskm lnm spm lsm ldm tbm rdm undm gonm lefm akm vnm dym asdm lmam limm ream stsm aprm tzm spom wrom numm nuAm stlm spem wanm foum)) (next : ∀ (S' : St) (σ : List AE), LW S' σ → LAt l N X Post i 1780 σ) : LAt l N X Post i 1037 (wL f_ s_ t_ f1_ s1_ t1_ f2_ s2_ t2_ tb_ f3_ s3_ t3_ nu_ ln_ sp_ ls_ g_ ta_ pl_ pf_ ps_ pt_ fi_ hz_ ks_ tz_ ra_ rf_ rt_ la_ lb_ lc_ mp_ mv_ mk_ mo_ my_ mw_ ma_ ml_ ak_ dy_ br_ ad_ dp_ lm_ rs_ len_ nowm wasm keptm iskm lnm spm lsm ldm tbm rdm undm gonm lefm akm vnm dym asdm lmam limm ream stsm aprm tzm spom wrom numm nuAm stlm spem wanm foum) := by
  refine AW.go (bs := bLa22 ++ bLb22) [1780] 80 (z_chk_app tLa22 tLb22) ?_
  refine And.intro (zx_in (by omega) hN) ?_
  refine And.intro (zx_in (by omega) hN) ?_
  show ∃ sp : Sp, _
  refine callLA (fun _ => rfl) (v_ends l) (by decide) rfl ⟨S, hA, _, _, rfl, hX _, hX _, kkLA (fun f' s' t' f1' s1' t1' f2' s2' t2' tb' f3' s3' t3' nu' ln' sp' ls' g' ta' pl' pf' ps' pt' fi' hz' ks' tz' ra' rf' rt' la' lb' lc' mp' mv' mk' mo' my' mw' ma' ml' ak' dy' br' ad' dp' lm' rs' len' hA => ?_)⟩
  refine And.intro (zx_in (by omega) hN) ?_
  refine And.intro (zx_in (by omega) hN) ?_
  show ∃ sp : Sp, _
  refine callLM (fun _ => rfl) (v_mends l) (by decide) rfl ⟨S, hM, _, _, rfl, hX _, hX _, kkLM (fun nowm' wasm' keptm' iskm' lnm' spm' lsm' ldm' tbm' rdm' undm' gonm' lefm' akm' vnm' dym' asdm' lmam' limm' ream' stsm' aprm' tzm' spom' wrom' numm' nuAm' stlm' spem' wanm' foum' hM => ?_)⟩
  refine And.intro (fun _ => ?_) (fun q => absurd rfl q)
  exact next _ _ ⟨_, _, _, _, _, _, _, _, _, _, _, _, _, _, _, _, _, _, _, _, _, _, _, _, _, _, _, _, _, _, _, _, _, _, _, _, _, _, _, _, _, _, _, _, _, _, _, _, _, _, _, _, _, _, _, _, _, _, _, _, _, _, _, _, _, _, _, _, _, _, _, _, _, _, _, _, _, _, _, _, rfl, hA, hM⟩
set_option maxRecDepth 20000 in
theorem law_23 (l : Launch) {Post : Option Value → List AE → Prop} {S : St} {N i : Nat} {X : Nat → Int} (hX : ∀ k, ir (X k)) (hi : i + 6 ≤ N) (hN : N ≤ 3072) {f_ s_ t_ f1_ s1_ t1_ f2_ s2_ t2_ tb_ f3_ s3_ t3_ nu_ ln_ sp_ ls_ g_ ta_ pl_ : Nat → Int32} {pf_ ps_ pt_ : Nat → Nat → Int32} {fi_ hz_ ks_ tz_ ra_ rf_ rt_ la_ lb_ lc_ mp_ mv_ mk_ mo_ my_ mw_ ma_ ml_ ak_ dy_ br_ ad_ dp_ lm_ rs_ len_ : Int32} {nowm wasm keptm iskm lnm spm lsm ldm tbm rdm : Nat → Int32} {undm gonm lefm akm vnm dym asdm lmam limm ream stsm aprm tzm spom wrom numm nuAm stlm spem wanm foum : Int32} (hA : isA S (wA f_ s_ t_ f1_ s1_ t1_ f2_ s2_ t2_ tb_ f3_ s3_ t3_ nu_ ln_ sp_ ls_ g_ ta_ pl_ pf_ ps_ pt_ fi_ hz_ ks_ tz_ ra_ rf_ rt_ la_ lb_ lc_ mp_ mv_ mk_ mo_ my_ mw_ ma_ ml_ ak_ dy_ br_ ad_ dp_ lm_ rs_ len_)) (hM : isMd S (wMd nowm wasm keptm iskm lnm spm lsm ldm tbm rdm undm gonm lefm akm vnm dym asdm lmam limm ream stsm aprm tzm spom wrom numm nuAm stlm spem wanm foum)) (next : ∀ (S' : St) (σ : List AE), LW S' σ → LAt l N X Post i 1780 σ) : LAt l N X Post i 1070 (wL f_ s_ t_ f1_ s1_ t1_ f2_ s2_ t2_ tb_ f3_ s3_ t3_ nu_ ln_ sp_ ls_ g_ ta_ pl_ pf_ ps_ pt_ fi_ hz_ ks_ tz_ ra_ rf_ rt_ la_ lb_ lc_ mp_ mv_ mk_ mo_ my_ mw_ ma_ ml_ ak_ dy_ br_ ad_ dp_ lm_ rs_ len_ nowm wasm keptm iskm lnm spm lsm ldm tbm rdm undm gonm lefm akm vnm dym asdm lmam limm ream stsm aprm tzm spom wrom numm nuAm stlm spem wanm foum) := by
  refine AW.go (bs := bLa23 ++ bLb23) [1780] 80 (z_chk_app tLa23 tLb23) ?_
  refine And.intro (zx_in (by omega) hN) ?_
  refine And.intro (zx_in (by omega) hN) ?_
  refine And.intro (zx_in (by omega) hN) ?_
  refine And.intro (zx_in (by omega) hN) ?_
  show ∃ sp : Sp, _
  refine callLA (fun _ => rfl) (v_decides l) (by decide) rfl ⟨S, hA, _, _, _, _, rfl, hX _, hX _, hX _, hX _, kkLA (fun f' s' t' f1' s1' t1' f2' s2' t2' tb' f3' s3' t3' nu' ln' sp' ls' g' ta' pl' pf' ps' pt' fi' hz' ks' tz' ra' rf' rt' la' lb' lc' mp' mv' mk' mo' my' mw' ma' ml' ak' dy' br' ad' dp' lm' rs' len' hA => ?_)⟩
  refine And.intro (zx_in (by omega) hN) ?_
  refine And.intro (zx_in (by omega) hN) ?_
  refine And.intro (zx_in (by omega) hN) ?_
  refine And.intro (zx_in (by omega) hN) ?_
  show ∃ sp : Sp, _
  refine callLM (fun _ => rfl) (v_mdecides l) (by decide) rfl ⟨S, hM, _, _, _, _, rfl, hX _, hX _, hX _, hX _, kkLM (fun nowm' wasm' keptm' iskm' lnm' spm' lsm' ldm' tbm' rdm' undm' gonm' lefm' akm' vnm' dym' asdm' lmam' limm' ream' stsm' aprm' tzm' spom' wrom' numm' nuAm' stlm' spem' wanm' foum' hM => ?_)⟩
  refine And.intro (fun _ => ?_) (fun q => absurd rfl q)
  exact next _ _ ⟨_, _, _, _, _, _, _, _, _, _, _, _, _, _, _, _, _, _, _, _, _, _, _, _, _, _, _, _, _, _, _, _, _, _, _, _, _, _, _, _, _, _, _, _, _, _, _, _, _, _, _, _, _, _, _, _, _, _, _, _, _, _, _, _, _, _, _, _, _, _, _, _, _, _, _, _, _, _, _, _, rfl, hA, hM⟩
set_option maxRecDepth 20000 in
theorem law_24 (l : Launch) {Post : Option Value → List AE → Prop} {S : St} {N i : Nat} {X : Nat → Int} (hX : ∀ k, ir (X k)) (hi : i + 6 ≤ N) (hN : N ≤ 3072) {f_ s_ t_ f1_ s1_ t1_ f2_ s2_ t2_ tb_ f3_ s3_ t3_ nu_ ln_ sp_ ls_ g_ ta_ pl_ : Nat → Int32} {pf_ ps_ pt_ : Nat → Nat → Int32} {fi_ hz_ ks_ tz_ ra_ rf_ rt_ la_ lb_ lc_ mp_ mv_ mk_ mo_ my_ mw_ ma_ ml_ ak_ dy_ br_ ad_ dp_ lm_ rs_ len_ : Int32} {nowm wasm keptm iskm lnm spm lsm ldm tbm rdm : Nat → Int32} {undm gonm lefm akm vnm dym asdm lmam limm ream stsm aprm tzm spom wrom numm nuAm stlm spem wanm foum : Int32} (hA : isA S (wA f_ s_ t_ f1_ s1_ t1_ f2_ s2_ t2_ tb_ f3_ s3_ t3_ nu_ ln_ sp_ ls_ g_ ta_ pl_ pf_ ps_ pt_ fi_ hz_ ks_ tz_ ra_ rf_ rt_ la_ lb_ lc_ mp_ mv_ mk_ mo_ my_ mw_ ma_ ml_ ak_ dy_ br_ ad_ dp_ lm_ rs_ len_)) (hM : isMd S (wMd nowm wasm keptm iskm lnm spm lsm ldm tbm rdm undm gonm lefm akm vnm dym asdm lmam limm ream stsm aprm tzm spom wrom numm nuAm stlm spem wanm foum)) (next : ∀ (S' : St) (σ : List AE), LW S' σ → LAt l N X Post i 1780 σ) : LAt l N X Post i 1123 (wL f_ s_ t_ f1_ s1_ t1_ f2_ s2_ t2_ tb_ f3_ s3_ t3_ nu_ ln_ sp_ ls_ g_ ta_ pl_ pf_ ps_ pt_ fi_ hz_ ks_ tz_ ra_ rf_ rt_ la_ lb_ lc_ mp_ mv_ mk_ mo_ my_ mw_ ma_ ml_ ak_ dy_ br_ ad_ dp_ lm_ rs_ len_ nowm wasm keptm iskm lnm spm lsm ldm tbm rdm undm gonm lefm akm vnm dym asdm lmam limm ream stsm aprm tzm spom wrom numm nuAm stlm spem wanm foum) := by
  refine AW.go (bs := bLa24 ++ bLb24) [1780] 80 (z_chk_app tLa24 tLb24) ?_
  refine And.intro (zx_in (by omega) hN) ?_
  refine And.intro (zx_in (by omega) hN) ?_
  refine And.intro (zx_in (by omega) hN) ?_
  show ∃ sp : Sp, _
  refine callLA (fun _ => rfl) (v_power l) (by decide) rfl ⟨S, hA, _, _, _, rfl, hX _, hX _, hX _, kkLA (fun f' s' t' f1' s1' t1' f2' s2' t2' tb' f3' s3' t3' nu' ln' sp' ls' g' ta' pl' pf' ps' pt' fi' hz' ks' tz' ra' rf' rt' la' lb' lc' mp' mv' mk' mo' my' mw' ma' ml' ak' dy' br' ad' dp' lm' rs' len' hA => ?_)⟩
  refine And.intro (zx_in (by omega) hN) ?_
  refine And.intro (zx_in (by omega) hN) ?_
  refine And.intro (zx_in (by omega) hN) ?_
  show ∃ sp : Sp, _
  refine callLM (fun _ => rfl) (v_mpower l) (by decide) rfl ⟨S, hM, _, _, _, rfl, hX _, hX _, hX _, kkLM (fun nowm' wasm' keptm' iskm' lnm' spm' lsm' ldm' tbm' rdm' undm' gonm' lefm' akm' vnm' dym' asdm' lmam' limm' ream' stsm' aprm' tzm' spom' wrom' numm' nuAm' stlm' spem' wanm' foum' hM => ?_)⟩
  refine And.intro (fun _ => ?_) (fun q => absurd rfl q)
  exact next _ _ ⟨_, _, _, _, _, _, _, _, _, _, _, _, _, _, _, _, _, _, _, _, _, _, _, _, _, _, _, _, _, _, _, _, _, _, _, _, _, _, _, _, _, _, _, _, _, _, _, _, _, _, _, _, _, _, _, _, _, _, _, _, _, _, _, _, _, _, _, _, _, _, _, _, _, _, _, _, _, _, _, _, rfl, hA, hM⟩
set_option maxRecDepth 20000 in
theorem law_25 (l : Launch) {Post : Option Value → List AE → Prop} {S : St} {N i : Nat} {X : Nat → Int} (hX : ∀ k, ir (X k)) (hi : i + 6 ≤ N) (hN : N ≤ 3072) {f_ s_ t_ f1_ s1_ t1_ f2_ s2_ t2_ tb_ f3_ s3_ t3_ nu_ ln_ sp_ ls_ g_ ta_ pl_ : Nat → Int32} {pf_ ps_ pt_ : Nat → Nat → Int32} {fi_ hz_ ks_ tz_ ra_ rf_ rt_ la_ lb_ lc_ mp_ mv_ mk_ mo_ my_ mw_ ma_ ml_ ak_ dy_ br_ ad_ dp_ lm_ rs_ len_ : Int32} {nowm wasm keptm iskm lnm spm lsm ldm tbm rdm : Nat → Int32} {undm gonm lefm akm vnm dym asdm lmam limm ream stsm aprm tzm spom wrom numm nuAm stlm spem wanm foum : Int32} (hA : isA S (wA f_ s_ t_ f1_ s1_ t1_ f2_ s2_ t2_ tb_ f3_ s3_ t3_ nu_ ln_ sp_ ls_ g_ ta_ pl_ pf_ ps_ pt_ fi_ hz_ ks_ tz_ ra_ rf_ rt_ la_ lb_ lc_ mp_ mv_ mk_ mo_ my_ mw_ ma_ ml_ ak_ dy_ br_ ad_ dp_ lm_ rs_ len_)) (hM : isMd S (wMd nowm wasm keptm iskm lnm spm lsm ldm tbm rdm undm gonm lefm akm vnm dym asdm lmam limm ream stsm aprm tzm spom wrom numm nuAm stlm spem wanm foum)) (next : ∀ (S' : St) (σ : List AE), LW S' σ → LAt l N X Post i 1780 σ) : LAt l N X Post i 1166 (wL f_ s_ t_ f1_ s1_ t1_ f2_ s2_ t2_ tb_ f3_ s3_ t3_ nu_ ln_ sp_ ls_ g_ ta_ pl_ pf_ ps_ pt_ fi_ hz_ ks_ tz_ ra_ rf_ rt_ la_ lb_ lc_ mp_ mv_ mk_ mo_ my_ mw_ ma_ ml_ ak_ dy_ br_ ad_ dp_ lm_ rs_ len_ nowm wasm keptm iskm lnm spm lsm ldm tbm rdm undm gonm lefm akm vnm dym asdm lmam limm ream stsm aprm tzm spom wrom numm nuAm stlm spem wanm foum) := by
  refine AW.go (bs := bLa25 ++ bLb25) [1780] 80 (z_chk_app tLa25 tLb25) ?_
  refine And.intro (zx_in (by omega) hN) ?_
  show ∃ sp : Sp, _
  refine callLA (fun _ => rfl) (v_ring l) (by decide) rfl ⟨S, hA, _, rfl, hX _, kkLA (fun f' s' t' f1' s1' t1' f2' s2' t2' tb' f3' s3' t3' nu' ln' sp' ls' g' ta' pl' pf' ps' pt' fi' hz' ks' tz' ra' rf' rt' la' lb' lc' mp' mv' mk' mo' my' mw' ma' ml' ak' dy' br' ad' dp' lm' rs' len' hA => ?_)⟩
  refine And.intro (zx_in (by omega) hN) ?_
  show ∃ sp : Sp, _
  refine callLM (fun _ => rfl) (v_mring l) (by decide) rfl ⟨S, hM, _, rfl, hX _, kkLM (fun nowm' wasm' keptm' iskm' lnm' spm' lsm' ldm' tbm' rdm' undm' gonm' lefm' akm' vnm' dym' asdm' lmam' limm' ream' stsm' aprm' tzm' spom' wrom' numm' nuAm' stlm' spem' wanm' foum' hM => ?_)⟩
  refine And.intro (fun _ => ?_) (fun q => absurd rfl q)
  exact next _ _ ⟨_, _, _, _, _, _, _, _, _, _, _, _, _, _, _, _, _, _, _, _, _, _, _, _, _, _, _, _, _, _, _, _, _, _, _, _, _, _, _, _, _, _, _, _, _, _, _, _, _, _, _, _, _, _, _, _, _, _, _, _, _, _, _, _, _, _, _, _, _, _, _, _, _, _, _, _, _, _, _, _, rfl, hA, hM⟩
set_option maxRecDepth 20000 in
theorem law_26 (l : Launch) {Post : Option Value → List AE → Prop} {S : St} {N i : Nat} {X : Nat → Int} (hX : ∀ k, ir (X k)) (hi : i + 6 ≤ N) (hN : N ≤ 3072) {f_ s_ t_ f1_ s1_ t1_ f2_ s2_ t2_ tb_ f3_ s3_ t3_ nu_ ln_ sp_ ls_ g_ ta_ pl_ : Nat → Int32} {pf_ ps_ pt_ : Nat → Nat → Int32} {fi_ hz_ ks_ tz_ ra_ rf_ rt_ la_ lb_ lc_ mp_ mv_ mk_ mo_ my_ mw_ ma_ ml_ ak_ dy_ br_ ad_ dp_ lm_ rs_ len_ : Int32} {nowm wasm keptm iskm lnm spm lsm ldm tbm rdm : Nat → Int32} {undm gonm lefm akm vnm dym asdm lmam limm ream stsm aprm tzm spom wrom numm nuAm stlm spem wanm foum : Int32} (hA : isA S (wA f_ s_ t_ f1_ s1_ t1_ f2_ s2_ t2_ tb_ f3_ s3_ t3_ nu_ ln_ sp_ ls_ g_ ta_ pl_ pf_ ps_ pt_ fi_ hz_ ks_ tz_ ra_ rf_ rt_ la_ lb_ lc_ mp_ mv_ mk_ mo_ my_ mw_ ma_ ml_ ak_ dy_ br_ ad_ dp_ lm_ rs_ len_)) (hM : isMd S (wMd nowm wasm keptm iskm lnm spm lsm ldm tbm rdm undm gonm lefm akm vnm dym asdm lmam limm ream stsm aprm tzm spom wrom numm nuAm stlm spem wanm foum)) (next : ∀ (S' : St) (σ : List AE), LW S' σ → LAt l N X Post i 1780 σ) : LAt l N X Post i 1189 (wL f_ s_ t_ f1_ s1_ t1_ f2_ s2_ t2_ tb_ f3_ s3_ t3_ nu_ ln_ sp_ ls_ g_ ta_ pl_ pf_ ps_ pt_ fi_ hz_ ks_ tz_ ra_ rf_ rt_ la_ lb_ lc_ mp_ mv_ mk_ mo_ my_ mw_ ma_ ml_ ak_ dy_ br_ ad_ dp_ lm_ rs_ len_ nowm wasm keptm iskm lnm spm lsm ldm tbm rdm undm gonm lefm akm vnm dym asdm lmam limm ream stsm aprm tzm spom wrom numm nuAm stlm spem wanm foum) := by
  refine AW.go (bs := bLa26 ++ bLb26) [1780] 80 (z_chk_app tLa26 tLb26) ?_
  refine And.intro (zx_in (by omega) hN) ?_
  show ∃ sp : Sp, _
  refine callLA (fun _ => rfl) (v_split l) (by decide) rfl ⟨S, hA, _, rfl, hX _, kkLA (fun f' s' t' f1' s1' t1' f2' s2' t2' tb' f3' s3' t3' nu' ln' sp' ls' g' ta' pl' pf' ps' pt' fi' hz' ks' tz' ra' rf' rt' la' lb' lc' mp' mv' mk' mo' my' mw' ma' ml' ak' dy' br' ad' dp' lm' rs' len' hA => ?_)⟩
  refine And.intro (zx_in (by omega) hN) ?_
  show ∃ sp : Sp, _
  refine callLM (fun _ => rfl) (v_msplit l) (by decide) rfl ⟨S, hM, _, rfl, hX _, kkLM (fun nowm' wasm' keptm' iskm' lnm' spm' lsm' ldm' tbm' rdm' undm' gonm' lefm' akm' vnm' dym' asdm' lmam' limm' ream' stsm' aprm' tzm' spom' wrom' numm' nuAm' stlm' spem' wanm' foum' hM => ?_)⟩
  refine And.intro (fun _ => ?_) (fun q => absurd rfl q)
  exact next _ _ ⟨_, _, _, _, _, _, _, _, _, _, _, _, _, _, _, _, _, _, _, _, _, _, _, _, _, _, _, _, _, _, _, _, _, _, _, _, _, _, _, _, _, _, _, _, _, _, _, _, _, _, _, _, _, _, _, _, _, _, _, _, _, _, _, _, _, _, _, _, _, _, _, _, _, _, _, _, _, _, _, _, rfl, hA, hM⟩
set_option maxRecDepth 20000 in
theorem law_27 (l : Launch) {Post : Option Value → List AE → Prop} {S : St} {N i : Nat} {X : Nat → Int} (hX : ∀ k, ir (X k)) (hi : i + 6 ≤ N) (hN : N ≤ 3072) {f_ s_ t_ f1_ s1_ t1_ f2_ s2_ t2_ tb_ f3_ s3_ t3_ nu_ ln_ sp_ ls_ g_ ta_ pl_ : Nat → Int32} {pf_ ps_ pt_ : Nat → Nat → Int32} {fi_ hz_ ks_ tz_ ra_ rf_ rt_ la_ lb_ lc_ mp_ mv_ mk_ mo_ my_ mw_ ma_ ml_ ak_ dy_ br_ ad_ dp_ lm_ rs_ len_ : Int32} {nowm wasm keptm iskm lnm spm lsm ldm tbm rdm : Nat → Int32} {undm gonm lefm akm vnm dym asdm lmam limm ream stsm aprm tzm spom wrom numm nuAm stlm spem wanm foum : Int32} (hA : isA S (wA f_ s_ t_ f1_ s1_ t1_ f2_ s2_ t2_ tb_ f3_ s3_ t3_ nu_ ln_ sp_ ls_ g_ ta_ pl_ pf_ ps_ pt_ fi_ hz_ ks_ tz_ ra_ rf_ rt_ la_ lb_ lc_ mp_ mv_ mk_ mo_ my_ mw_ ma_ ml_ ak_ dy_ br_ ad_ dp_ lm_ rs_ len_)) (hM : isMd S (wMd nowm wasm keptm iskm lnm spm lsm ldm tbm rdm undm gonm lefm akm vnm dym asdm lmam limm ream stsm aprm tzm spom wrom numm nuAm stlm spem wanm foum)) (next : ∀ (S' : St) (σ : List AE), LW S' σ → LAt l N X Post i 1780 σ) : LAt l N X Post i 1212 (wL f_ s_ t_ f1_ s1_ t1_ f2_ s2_ t2_ tb_ f3_ s3_ t3_ nu_ ln_ sp_ ls_ g_ ta_ pl_ pf_ ps_ pt_ fi_ hz_ ks_ tz_ ra_ rf_ rt_ la_ lb_ lc_ mp_ mv_ mk_ mo_ my_ mw_ ma_ ml_ ak_ dy_ br_ ad_ dp_ lm_ rs_ len_ nowm wasm keptm iskm lnm spm lsm ldm tbm rdm undm gonm lefm akm vnm dym asdm lmam limm ream stsm aprm tzm spom wrom numm nuAm stlm spem wanm foum) := by
  refine AW.go (bs := bLa27 ++ bLb27) [1780] 80 (z_chk_app tLa27 tLb27) ?_
  refine And.intro (zx_in (by omega) hN) ?_
  refine And.intro (zx_in (by omega) hN) ?_
  refine And.intro (zx_in (by omega) hN) ?_
  show ∃ sp : Sp, _
  refine callLA (fun _ => rfl) (v_without l) (by decide) rfl ⟨S, hA, _, _, _, rfl, hX _, hX _, hX _, kkLA (fun f' s' t' f1' s1' t1' f2' s2' t2' tb' f3' s3' t3' nu' ln' sp' ls' g' ta' pl' pf' ps' pt' fi' hz' ks' tz' ra' rf' rt' la' lb' lc' mp' mv' mk' mo' my' mw' ma' ml' ak' dy' br' ad' dp' lm' rs' len' hA => ?_)⟩
  refine And.intro (zx_in (by omega) hN) ?_
  refine And.intro (zx_in (by omega) hN) ?_
  refine And.intro (zx_in (by omega) hN) ?_
  show ∃ sp : Sp, _
  refine callLM (fun _ => rfl) (v_mwithout l) (by decide) rfl ⟨S, hM, _, _, _, rfl, hX _, hX _, hX _, kkLM (fun nowm' wasm' keptm' iskm' lnm' spm' lsm' ldm' tbm' rdm' undm' gonm' lefm' akm' vnm' dym' asdm' lmam' limm' ream' stsm' aprm' tzm' spom' wrom' numm' nuAm' stlm' spem' wanm' foum' hM => ?_)⟩
  refine And.intro (fun _ => ?_) (fun q => absurd rfl q)
  exact next _ _ ⟨_, _, _, _, _, _, _, _, _, _, _, _, _, _, _, _, _, _, _, _, _, _, _, _, _, _, _, _, _, _, _, _, _, _, _, _, _, _, _, _, _, _, _, _, _, _, _, _, _, _, _, _, _, _, _, _, _, _, _, _, _, _, _, _, _, _, _, _, _, _, _, _, _, _, _, _, _, _, _, _, rfl, hA, hM⟩
set_option maxRecDepth 20000 in
theorem law_28 (l : Launch) {Post : Option Value → List AE → Prop} {S : St} {N i : Nat} {X : Nat → Int} (hX : ∀ k, ir (X k)) (hi : i + 6 ≤ N) (hN : N ≤ 3072) {f_ s_ t_ f1_ s1_ t1_ f2_ s2_ t2_ tb_ f3_ s3_ t3_ nu_ ln_ sp_ ls_ g_ ta_ pl_ : Nat → Int32} {pf_ ps_ pt_ : Nat → Nat → Int32} {fi_ hz_ ks_ tz_ ra_ rf_ rt_ la_ lb_ lc_ mp_ mv_ mk_ mo_ my_ mw_ ma_ ml_ ak_ dy_ br_ ad_ dp_ lm_ rs_ len_ : Int32} {nowm wasm keptm iskm lnm spm lsm ldm tbm rdm : Nat → Int32} {undm gonm lefm akm vnm dym asdm lmam limm ream stsm aprm tzm spom wrom numm nuAm stlm spem wanm foum : Int32} (hA : isA S (wA f_ s_ t_ f1_ s1_ t1_ f2_ s2_ t2_ tb_ f3_ s3_ t3_ nu_ ln_ sp_ ls_ g_ ta_ pl_ pf_ ps_ pt_ fi_ hz_ ks_ tz_ ra_ rf_ rt_ la_ lb_ lc_ mp_ mv_ mk_ mo_ my_ mw_ ma_ ml_ ak_ dy_ br_ ad_ dp_ lm_ rs_ len_)) (hM : isMd S (wMd nowm wasm keptm iskm lnm spm lsm ldm tbm rdm undm gonm lefm akm vnm dym asdm lmam limm ream stsm aprm tzm spom wrom numm nuAm stlm spem wanm foum)) (next : ∀ (S' : St) (σ : List AE), LW S' σ → LAt l N X Post i 1780 σ) : LAt l N X Post i 1255 (wL f_ s_ t_ f1_ s1_ t1_ f2_ s2_ t2_ tb_ f3_ s3_ t3_ nu_ ln_ sp_ ls_ g_ ta_ pl_ pf_ ps_ pt_ fi_ hz_ ks_ tz_ ra_ rf_ rt_ la_ lb_ lc_ mp_ mv_ mk_ mo_ my_ mw_ ma_ ml_ ak_ dy_ br_ ad_ dp_ lm_ rs_ len_ nowm wasm keptm iskm lnm spm lsm ldm tbm rdm undm gonm lefm akm vnm dym asdm lmam limm ream stsm aprm tzm spom wrom numm nuAm stlm spem wanm foum) := by
  refine AW.go (bs := bLa28 ++ bLb28) [1780] 80 (z_chk_app tLa28 tLb28) ?_
  refine And.intro (zx_in (by omega) hN) ?_
  refine And.intro (zx_in (by omega) hN) ?_
  show ∃ sp : Sp, _
  refine callLA (fun _ => rfl) (v_cure l) (by decide) rfl ⟨S, hA, _, _, rfl, hX _, hX _, kkLA (fun f' s' t' f1' s1' t1' f2' s2' t2' tb' f3' s3' t3' nu' ln' sp' ls' g' ta' pl' pf' ps' pt' fi' hz' ks' tz' ra' rf' rt' la' lb' lc' mp' mv' mk' mo' my' mw' ma' ml' ak' dy' br' ad' dp' lm' rs' len' hA => ?_)⟩
  refine And.intro (zx_in (by omega) hN) ?_
  refine And.intro (zx_in (by omega) hN) ?_
  show ∃ sp : Sp, _
  refine callLM (fun _ => rfl) (v_mcure l) (by decide) rfl ⟨S, hM, _, _, rfl, hX _, hX _, kkLM (fun nowm' wasm' keptm' iskm' lnm' spm' lsm' ldm' tbm' rdm' undm' gonm' lefm' akm' vnm' dym' asdm' lmam' limm' ream' stsm' aprm' tzm' spom' wrom' numm' nuAm' stlm' spem' wanm' foum' hM => ?_)⟩
  refine And.intro (fun _ => ?_) (fun q => absurd rfl q)
  exact next _ _ ⟨_, _, _, _, _, _, _, _, _, _, _, _, _, _, _, _, _, _, _, _, _, _, _, _, _, _, _, _, _, _, _, _, _, _, _, _, _, _, _, _, _, _, _, _, _, _, _, _, _, _, _, _, _, _, _, _, _, _, _, _, _, _, _, _, _, _, _, _, _, _, _, _, _, _, _, _, _, _, _, _, rfl, hA, hM⟩
set_option maxRecDepth 20000 in
theorem law_29 (l : Launch) {Post : Option Value → List AE → Prop} {S : St} {N i : Nat} {X : Nat → Int} (hX : ∀ k, ir (X k)) (hi : i + 6 ≤ N) (hN : N ≤ 3072) {f_ s_ t_ f1_ s1_ t1_ f2_ s2_ t2_ tb_ f3_ s3_ t3_ nu_ ln_ sp_ ls_ g_ ta_ pl_ : Nat → Int32} {pf_ ps_ pt_ : Nat → Nat → Int32} {fi_ hz_ ks_ tz_ ra_ rf_ rt_ la_ lb_ lc_ mp_ mv_ mk_ mo_ my_ mw_ ma_ ml_ ak_ dy_ br_ ad_ dp_ lm_ rs_ len_ : Int32} {nowm wasm keptm iskm lnm spm lsm ldm tbm rdm : Nat → Int32} {undm gonm lefm akm vnm dym asdm lmam limm ream stsm aprm tzm spom wrom numm nuAm stlm spem wanm foum : Int32} (hA : isA S (wA f_ s_ t_ f1_ s1_ t1_ f2_ s2_ t2_ tb_ f3_ s3_ t3_ nu_ ln_ sp_ ls_ g_ ta_ pl_ pf_ ps_ pt_ fi_ hz_ ks_ tz_ ra_ rf_ rt_ la_ lb_ lc_ mp_ mv_ mk_ mo_ my_ mw_ ma_ ml_ ak_ dy_ br_ ad_ dp_ lm_ rs_ len_)) (hM : isMd S (wMd nowm wasm keptm iskm lnm spm lsm ldm tbm rdm undm gonm lefm akm vnm dym asdm lmam limm ream stsm aprm tzm spom wrom numm nuAm stlm spem wanm foum)) (next : ∀ (S' : St) (σ : List AE), LW S' σ → LAt l N X Post i 1780 σ) : LAt l N X Post i 1288 (wL f_ s_ t_ f1_ s1_ t1_ f2_ s2_ t2_ tb_ f3_ s3_ t3_ nu_ ln_ sp_ ls_ g_ ta_ pl_ pf_ ps_ pt_ fi_ hz_ ks_ tz_ ra_ rf_ rt_ la_ lb_ lc_ mp_ mv_ mk_ mo_ my_ mw_ ma_ ml_ ak_ dy_ br_ ad_ dp_ lm_ rs_ len_ nowm wasm keptm iskm lnm spm lsm ldm tbm rdm undm gonm lefm akm vnm dym asdm lmam limm ream stsm aprm tzm spom wrom numm nuAm stlm spem wanm foum) := by
  refine AW.go (bs := bLa29 ++ bLb29) [1780] 80 (z_chk_app tLa29 tLb29) ?_
  refine And.intro (zx_in (by omega) hN) ?_
  refine And.intro (zx_in (by omega) hN) ?_
  show ∃ sp : Sp, _
  refine callLA (fun _ => rfl) (v_most l) (by decide) rfl ⟨S, hA, _, _, rfl, hX _, hX _, kkLA (fun f' s' t' f1' s1' t1' f2' s2' t2' tb' f3' s3' t3' nu' ln' sp' ls' g' ta' pl' pf' ps' pt' fi' hz' ks' tz' ra' rf' rt' la' lb' lc' mp' mv' mk' mo' my' mw' ma' ml' ak' dy' br' ad' dp' lm' rs' len' hA => ?_)⟩
  refine And.intro (zx_in (by omega) hN) ?_
  refine And.intro (zx_in (by omega) hN) ?_
  show ∃ sp : Sp, _
  refine callLM (fun _ => rfl) (v_mmost l) (by decide) rfl ⟨S, hM, _, _, rfl, hX _, hX _, kkLM (fun nowm' wasm' keptm' iskm' lnm' spm' lsm' ldm' tbm' rdm' undm' gonm' lefm' akm' vnm' dym' asdm' lmam' limm' ream' stsm' aprm' tzm' spom' wrom' numm' nuAm' stlm' spem' wanm' foum' hM => ?_)⟩
  refine And.intro (fun _ => ?_) (fun q => absurd rfl q)
  exact next _ _ ⟨_, _, _, _, _, _, _, _, _, _, _, _, _, _, _, _, _, _, _, _, _, _, _, _, _, _, _, _, _, _, _, _, _, _, _, _, _, _, _, _, _, _, _, _, _, _, _, _, _, _, _, _, _, _, _, _, _, _, _, _, _, _, _, _, _, _, _, _, _, _, _, _, _, _, _, _, _, _, _, _, rfl, hA, hM⟩
set_option maxRecDepth 20000 in
theorem law_30 (l : Launch) {Post : Option Value → List AE → Prop} {S : St} {N i : Nat} {X : Nat → Int} (hX : ∀ k, ir (X k)) (hi : i + 6 ≤ N) (hN : N ≤ 3072) {f_ s_ t_ f1_ s1_ t1_ f2_ s2_ t2_ tb_ f3_ s3_ t3_ nu_ ln_ sp_ ls_ g_ ta_ pl_ : Nat → Int32} {pf_ ps_ pt_ : Nat → Nat → Int32} {fi_ hz_ ks_ tz_ ra_ rf_ rt_ la_ lb_ lc_ mp_ mv_ mk_ mo_ my_ mw_ ma_ ml_ ak_ dy_ br_ ad_ dp_ lm_ rs_ len_ : Int32} {nowm wasm keptm iskm lnm spm lsm ldm tbm rdm : Nat → Int32} {undm gonm lefm akm vnm dym asdm lmam limm ream stsm aprm tzm spom wrom numm nuAm stlm spem wanm foum : Int32} (hA : isA S (wA f_ s_ t_ f1_ s1_ t1_ f2_ s2_ t2_ tb_ f3_ s3_ t3_ nu_ ln_ sp_ ls_ g_ ta_ pl_ pf_ ps_ pt_ fi_ hz_ ks_ tz_ ra_ rf_ rt_ la_ lb_ lc_ mp_ mv_ mk_ mo_ my_ mw_ ma_ ml_ ak_ dy_ br_ ad_ dp_ lm_ rs_ len_)) (hM : isMd S (wMd nowm wasm keptm iskm lnm spm lsm ldm tbm rdm undm gonm lefm akm vnm dym asdm lmam limm ream stsm aprm tzm spom wrom numm nuAm stlm spem wanm foum)) (next : ∀ (S' : St) (σ : List AE), LW S' σ → LAt l N X Post i 1780 σ) : LAt l N X Post i 1321 (wL f_ s_ t_ f1_ s1_ t1_ f2_ s2_ t2_ tb_ f3_ s3_ t3_ nu_ ln_ sp_ ls_ g_ ta_ pl_ pf_ ps_ pt_ fi_ hz_ ks_ tz_ ra_ rf_ rt_ la_ lb_ lc_ mp_ mv_ mk_ mo_ my_ mw_ ma_ ml_ ak_ dy_ br_ ad_ dp_ lm_ rs_ len_ nowm wasm keptm iskm lnm spm lsm ldm tbm rdm undm gonm lefm akm vnm dym asdm lmam limm ream stsm aprm tzm spom wrom numm nuAm stlm spem wanm foum) := by
  refine AW.go (bs := bLa30 ++ bLb30) [1780] 80 (z_chk_app tLa30 tLb30) ?_
  refine And.intro (zx_in (by omega) hN) ?_
  refine And.intro (zx_in (by omega) hN) ?_
  show ∃ sp : Sp, _
  refine callLA (fun _ => rfl) (v_load l) (by decide) rfl ⟨S, hA, _, _, rfl, hX _, hX _, kkLA (fun f' s' t' f1' s1' t1' f2' s2' t2' tb' f3' s3' t3' nu' ln' sp' ls' g' ta' pl' pf' ps' pt' fi' hz' ks' tz' ra' rf' rt' la' lb' lc' mp' mv' mk' mo' my' mw' ma' ml' ak' dy' br' ad' dp' lm' rs' len' hA => ?_)⟩
  refine And.intro (zx_in (by omega) hN) ?_
  refine And.intro (zx_in (by omega) hN) ?_
  show ∃ sp : Sp, _
  refine callLM (fun _ => rfl) (v_mload l) (by decide) rfl ⟨S, hM, _, _, rfl, hX _, hX _, kkLM (fun nowm' wasm' keptm' iskm' lnm' spm' lsm' ldm' tbm' rdm' undm' gonm' lefm' akm' vnm' dym' asdm' lmam' limm' ream' stsm' aprm' tzm' spom' wrom' numm' nuAm' stlm' spem' wanm' foum' hM => ?_)⟩
  refine And.intro (fun _ => ?_) (fun q => absurd rfl q)
  exact next _ _ ⟨_, _, _, _, _, _, _, _, _, _, _, _, _, _, _, _, _, _, _, _, _, _, _, _, _, _, _, _, _, _, _, _, _, _, _, _, _, _, _, _, _, _, _, _, _, _, _, _, _, _, _, _, _, _, _, _, _, _, _, _, _, _, _, _, _, _, _, _, _, _, _, _, _, _, _, _, _, _, _, _, rfl, hA, hM⟩
set_option maxRecDepth 20000 in
theorem law_31 (l : Launch) {Post : Option Value → List AE → Prop} {S : St} {N i : Nat} {X : Nat → Int} (hX : ∀ k, ir (X k)) (hi : i + 6 ≤ N) (hN : N ≤ 3072) {f_ s_ t_ f1_ s1_ t1_ f2_ s2_ t2_ tb_ f3_ s3_ t3_ nu_ ln_ sp_ ls_ g_ ta_ pl_ : Nat → Int32} {pf_ ps_ pt_ : Nat → Nat → Int32} {fi_ hz_ ks_ tz_ ra_ rf_ rt_ la_ lb_ lc_ mp_ mv_ mk_ mo_ my_ mw_ ma_ ml_ ak_ dy_ br_ ad_ dp_ lm_ rs_ len_ : Int32} {nowm wasm keptm iskm lnm spm lsm ldm tbm rdm : Nat → Int32} {undm gonm lefm akm vnm dym asdm lmam limm ream stsm aprm tzm spom wrom numm nuAm stlm spem wanm foum : Int32} (hA : isA S (wA f_ s_ t_ f1_ s1_ t1_ f2_ s2_ t2_ tb_ f3_ s3_ t3_ nu_ ln_ sp_ ls_ g_ ta_ pl_ pf_ ps_ pt_ fi_ hz_ ks_ tz_ ra_ rf_ rt_ la_ lb_ lc_ mp_ mv_ mk_ mo_ my_ mw_ ma_ ml_ ak_ dy_ br_ ad_ dp_ lm_ rs_ len_)) (hM : isMd S (wMd nowm wasm keptm iskm lnm spm lsm ldm tbm rdm undm gonm lefm akm vnm dym asdm lmam limm ream stsm aprm tzm spom wrom numm nuAm stlm spem wanm foum)) (next : ∀ (S' : St) (σ : List AE), LW S' σ → LAt l N X Post i 1780 σ) : LAt l N X Post i 1354 (wL f_ s_ t_ f1_ s1_ t1_ f2_ s2_ t2_ tb_ f3_ s3_ t3_ nu_ ln_ sp_ ls_ g_ ta_ pl_ pf_ ps_ pt_ fi_ hz_ ks_ tz_ ra_ rf_ rt_ la_ lb_ lc_ mp_ mv_ mk_ mo_ my_ mw_ ma_ ml_ ak_ dy_ br_ ad_ dp_ lm_ rs_ len_ nowm wasm keptm iskm lnm spm lsm ldm tbm rdm undm gonm lefm akm vnm dym asdm lmam limm ream stsm aprm tzm spom wrom numm nuAm stlm spem wanm foum) := by
  refine AW.go (bs := bLa31 ++ bLb31) [1780] 80 (z_chk_app tLa31 tLb31) ?_
  refine And.intro (zx_in (by omega) hN) ?_
  show ∃ sp : Sp, _
  refine callLA (fun _ => rfl) (v_busiest l) (by decide) rfl ⟨S, hA, _, rfl, hX _, kkLA (fun f' s' t' f1' s1' t1' f2' s2' t2' tb' f3' s3' t3' nu' ln' sp' ls' g' ta' pl' pf' ps' pt' fi' hz' ks' tz' ra' rf' rt' la' lb' lc' mp' mv' mk' mo' my' mw' ma' ml' ak' dy' br' ad' dp' lm' rs' len' hA => ?_)⟩
  refine And.intro (zx_in (by omega) hN) ?_
  show ∃ sp : Sp, _
  refine callLM (fun _ => rfl) (v_mbusiest l) (by decide) rfl ⟨S, hM, _, rfl, hX _, kkLM (fun nowm' wasm' keptm' iskm' lnm' spm' lsm' ldm' tbm' rdm' undm' gonm' lefm' akm' vnm' dym' asdm' lmam' limm' ream' stsm' aprm' tzm' spom' wrom' numm' nuAm' stlm' spem' wanm' foum' hM => ?_)⟩
  refine And.intro (fun _ => ?_) (fun q => absurd rfl q)
  exact next _ _ ⟨_, _, _, _, _, _, _, _, _, _, _, _, _, _, _, _, _, _, _, _, _, _, _, _, _, _, _, _, _, _, _, _, _, _, _, _, _, _, _, _, _, _, _, _, _, _, _, _, _, _, _, _, _, _, _, _, _, _, _, _, _, _, _, _, _, _, _, _, _, _, _, _, _, _, _, _, _, _, _, _, rfl, hA, hM⟩
set_option maxRecDepth 20000 in
theorem law_32 (l : Launch) {Post : Option Value → List AE → Prop} {S : St} {N i : Nat} {X : Nat → Int} (hX : ∀ k, ir (X k)) (hi : i + 6 ≤ N) (hN : N ≤ 3072) {f_ s_ t_ f1_ s1_ t1_ f2_ s2_ t2_ tb_ f3_ s3_ t3_ nu_ ln_ sp_ ls_ g_ ta_ pl_ : Nat → Int32} {pf_ ps_ pt_ : Nat → Nat → Int32} {fi_ hz_ ks_ tz_ ra_ rf_ rt_ la_ lb_ lc_ mp_ mv_ mk_ mo_ my_ mw_ ma_ ml_ ak_ dy_ br_ ad_ dp_ lm_ rs_ len_ : Int32} {nowm wasm keptm iskm lnm spm lsm ldm tbm rdm : Nat → Int32} {undm gonm lefm akm vnm dym asdm lmam limm ream stsm aprm tzm spom wrom numm nuAm stlm spem wanm foum : Int32} (hA : isA S (wA f_ s_ t_ f1_ s1_ t1_ f2_ s2_ t2_ tb_ f3_ s3_ t3_ nu_ ln_ sp_ ls_ g_ ta_ pl_ pf_ ps_ pt_ fi_ hz_ ks_ tz_ ra_ rf_ rt_ la_ lb_ lc_ mp_ mv_ mk_ mo_ my_ mw_ ma_ ml_ ak_ dy_ br_ ad_ dp_ lm_ rs_ len_)) (hM : isMd S (wMd nowm wasm keptm iskm lnm spm lsm ldm tbm rdm undm gonm lefm akm vnm dym asdm lmam limm ream stsm aprm tzm spom wrom numm nuAm stlm spem wanm foum)) (next : ∀ (S' : St) (σ : List AE), LW S' σ → LAt l N X Post i 1780 σ) : LAt l N X Post i 1377 (wL f_ s_ t_ f1_ s1_ t1_ f2_ s2_ t2_ tb_ f3_ s3_ t3_ nu_ ln_ sp_ ls_ g_ ta_ pl_ pf_ ps_ pt_ fi_ hz_ ks_ tz_ ra_ rf_ rt_ la_ lb_ lc_ mp_ mv_ mk_ mo_ my_ mw_ ma_ ml_ ak_ dy_ br_ ad_ dp_ lm_ rs_ len_ nowm wasm keptm iskm lnm spm lsm ldm tbm rdm undm gonm lefm akm vnm dym asdm lmam limm ream stsm aprm tzm spom wrom numm nuAm stlm spem wanm foum) := by
  refine AW.go (bs := bLa32 ++ bLb32) [1780] 80 (z_chk_app tLa32 tLb32) ?_
  refine And.intro (zx_in (by omega) hN) ?_
  show ∃ sp : Sp, _
  refine callLA (fun _ => rfl) (v_approved l) (by decide) rfl ⟨S, hA, _, rfl, hX _, kkLA (fun f' s' t' f1' s1' t1' f2' s2' t2' tb' f3' s3' t3' nu' ln' sp' ls' g' ta' pl' pf' ps' pt' fi' hz' ks' tz' ra' rf' rt' la' lb' lc' mp' mv' mk' mo' my' mw' ma' ml' ak' dy' br' ad' dp' lm' rs' len' hA => ?_)⟩
  refine And.intro (zx_in (by omega) hN) ?_
  show ∃ sp : Sp, _
  refine callLM (fun _ => rfl) (v_mapproved l) (by decide) rfl ⟨S, hM, _, rfl, hX _, kkLM (fun nowm' wasm' keptm' iskm' lnm' spm' lsm' ldm' tbm' rdm' undm' gonm' lefm' akm' vnm' dym' asdm' lmam' limm' ream' stsm' aprm' tzm' spom' wrom' numm' nuAm' stlm' spem' wanm' foum' hM => ?_)⟩
  refine And.intro (fun _ => ?_) (fun q => absurd rfl q)
  exact next _ _ ⟨_, _, _, _, _, _, _, _, _, _, _, _, _, _, _, _, _, _, _, _, _, _, _, _, _, _, _, _, _, _, _, _, _, _, _, _, _, _, _, _, _, _, _, _, _, _, _, _, _, _, _, _, _, _, _, _, _, _, _, _, _, _, _, _, _, _, _, _, _, _, _, _, _, _, _, _, _, _, _, _, rfl, hA, hM⟩
set_option maxRecDepth 20000 in
theorem law_33 (l : Launch) {Post : Option Value → List AE → Prop} {S : St} {N i : Nat} {X : Nat → Int} (hX : ∀ k, ir (X k)) (hi : i + 6 ≤ N) (hN : N ≤ 3072) {f_ s_ t_ f1_ s1_ t1_ f2_ s2_ t2_ tb_ f3_ s3_ t3_ nu_ ln_ sp_ ls_ g_ ta_ pl_ : Nat → Int32} {pf_ ps_ pt_ : Nat → Nat → Int32} {fi_ hz_ ks_ tz_ ra_ rf_ rt_ la_ lb_ lc_ mp_ mv_ mk_ mo_ my_ mw_ ma_ ml_ ak_ dy_ br_ ad_ dp_ lm_ rs_ len_ : Int32} {nowm wasm keptm iskm lnm spm lsm ldm tbm rdm : Nat → Int32} {undm gonm lefm akm vnm dym asdm lmam limm ream stsm aprm tzm spom wrom numm nuAm stlm spem wanm foum : Int32} (hA : isA S (wA f_ s_ t_ f1_ s1_ t1_ f2_ s2_ t2_ tb_ f3_ s3_ t3_ nu_ ln_ sp_ ls_ g_ ta_ pl_ pf_ ps_ pt_ fi_ hz_ ks_ tz_ ra_ rf_ rt_ la_ lb_ lc_ mp_ mv_ mk_ mo_ my_ mw_ ma_ ml_ ak_ dy_ br_ ad_ dp_ lm_ rs_ len_)) (hM : isMd S (wMd nowm wasm keptm iskm lnm spm lsm ldm tbm rdm undm gonm lefm akm vnm dym asdm lmam limm ream stsm aprm tzm spom wrom numm nuAm stlm spem wanm foum)) (next : ∀ (S' : St) (σ : List AE), LW S' σ → LAt l N X Post i 1780 σ) : LAt l N X Post i 1400 (wL f_ s_ t_ f1_ s1_ t1_ f2_ s2_ t2_ tb_ f3_ s3_ t3_ nu_ ln_ sp_ ls_ g_ ta_ pl_ pf_ ps_ pt_ fi_ hz_ ks_ tz_ ra_ rf_ rt_ la_ lb_ lc_ mp_ mv_ mk_ mo_ my_ mw_ ma_ ml_ ak_ dy_ br_ ad_ dp_ lm_ rs_ len_ nowm wasm keptm iskm lnm spm lsm ldm tbm rdm undm gonm lefm akm vnm dym asdm lmam limm ream stsm aprm tzm spom wrom numm nuAm stlm spem wanm foum) := by
  refine AW.go (bs := bLa33 ++ bLb33) [1780] 80 (z_chk_app tLa33 tLb33) ?_
  refine And.intro (zx_in (by omega) hN) ?_
  show ∃ sp : Sp, _
  refine callLA (fun _ => rfl) (v_could l) (by decide) rfl ⟨S, hA, _, rfl, hX _, kkLA (fun f' s' t' f1' s1' t1' f2' s2' t2' tb' f3' s3' t3' nu' ln' sp' ls' g' ta' pl' pf' ps' pt' fi' hz' ks' tz' ra' rf' rt' la' lb' lc' mp' mv' mk' mo' my' mw' ma' ml' ak' dy' br' ad' dp' lm' rs' len' hA => ?_)⟩
  refine And.intro (zx_in (by omega) hN) ?_
  show ∃ sp : Sp, _
  refine callLM (fun _ => rfl) (v_mcould l) (by decide) rfl ⟨S, hM, _, rfl, hX _, kkLM (fun nowm' wasm' keptm' iskm' lnm' spm' lsm' ldm' tbm' rdm' undm' gonm' lefm' akm' vnm' dym' asdm' lmam' limm' ream' stsm' aprm' tzm' spom' wrom' numm' nuAm' stlm' spem' wanm' foum' hM => ?_)⟩
  refine And.intro (fun _ => ?_) (fun q => absurd rfl q)
  exact next _ _ ⟨_, _, _, _, _, _, _, _, _, _, _, _, _, _, _, _, _, _, _, _, _, _, _, _, _, _, _, _, _, _, _, _, _, _, _, _, _, _, _, _, _, _, _, _, _, _, _, _, _, _, _, _, _, _, _, _, _, _, _, _, _, _, _, _, _, _, _, _, _, _, _, _, _, _, _, _, _, _, _, _, rfl, hA, hM⟩
set_option maxRecDepth 20000 in
theorem law_34 (l : Launch) {Post : Option Value → List AE → Prop} {S : St} {N i : Nat} {X : Nat → Int} (hX : ∀ k, ir (X k)) (hi : i + 6 ≤ N) (hN : N ≤ 3072) {f_ s_ t_ f1_ s1_ t1_ f2_ s2_ t2_ tb_ f3_ s3_ t3_ nu_ ln_ sp_ ls_ g_ ta_ pl_ : Nat → Int32} {pf_ ps_ pt_ : Nat → Nat → Int32} {fi_ hz_ ks_ tz_ ra_ rf_ rt_ la_ lb_ lc_ mp_ mv_ mk_ mo_ my_ mw_ ma_ ml_ ak_ dy_ br_ ad_ dp_ lm_ rs_ len_ : Int32} {nowm wasm keptm iskm lnm spm lsm ldm tbm rdm : Nat → Int32} {undm gonm lefm akm vnm dym asdm lmam limm ream stsm aprm tzm spom wrom numm nuAm stlm spem wanm foum : Int32} (hA : isA S (wA f_ s_ t_ f1_ s1_ t1_ f2_ s2_ t2_ tb_ f3_ s3_ t3_ nu_ ln_ sp_ ls_ g_ ta_ pl_ pf_ ps_ pt_ fi_ hz_ ks_ tz_ ra_ rf_ rt_ la_ lb_ lc_ mp_ mv_ mk_ mo_ my_ mw_ ma_ ml_ ak_ dy_ br_ ad_ dp_ lm_ rs_ len_)) (hM : isMd S (wMd nowm wasm keptm iskm lnm spm lsm ldm tbm rdm undm gonm lefm akm vnm dym asdm lmam limm ream stsm aprm tzm spom wrom numm nuAm stlm spem wanm foum)) (next : ∀ (S' : St) (σ : List AE), LW S' σ → LAt l N X Post i 1780 σ) : LAt l N X Post i 1423 (wL f_ s_ t_ f1_ s1_ t1_ f2_ s2_ t2_ tb_ f3_ s3_ t3_ nu_ ln_ sp_ ls_ g_ ta_ pl_ pf_ ps_ pt_ fi_ hz_ ks_ tz_ ra_ rf_ rt_ la_ lb_ lc_ mp_ mv_ mk_ mo_ my_ mw_ ma_ ml_ ak_ dy_ br_ ad_ dp_ lm_ rs_ len_ nowm wasm keptm iskm lnm spm lsm ldm tbm rdm undm gonm lefm akm vnm dym asdm lmam limm ream stsm aprm tzm spom wrom numm nuAm stlm spem wanm foum) := by
  refine AW.go (bs := bLa34 ++ bLb34) [1780] 80 (z_chk_app tLa34 tLb34) ?_
  refine And.intro (zx_in (by omega) hN) ?_
  refine And.intro (zx_in (by omega) hN) ?_
  refine And.intro (zx_in (by omega) hN) ?_
  refine And.intro (zx_in (by omega) hN) ?_
  show ∃ sp : Sp, _
  refine callLA (fun _ => rfl) (v_manned l) (by decide) rfl ⟨S, hA, _, _, _, _, rfl, hX _, hX _, hX _, hX _, kkLA (fun f' s' t' f1' s1' t1' f2' s2' t2' tb' f3' s3' t3' nu' ln' sp' ls' g' ta' pl' pf' ps' pt' fi' hz' ks' tz' ra' rf' rt' la' lb' lc' mp' mv' mk' mo' my' mw' ma' ml' ak' dy' br' ad' dp' lm' rs' len' hA => ?_)⟩
  refine And.intro (zx_in (by omega) hN) ?_
  refine And.intro (zx_in (by omega) hN) ?_
  refine And.intro (zx_in (by omega) hN) ?_
  refine And.intro (zx_in (by omega) hN) ?_
  show ∃ sp : Sp, _
  refine callLM (fun _ => rfl) (v_mmanned l) (by decide) rfl ⟨S, hM, _, _, _, _, rfl, hX _, hX _, hX _, hX _, kkLM (fun nowm' wasm' keptm' iskm' lnm' spm' lsm' ldm' tbm' rdm' undm' gonm' lefm' akm' vnm' dym' asdm' lmam' limm' ream' stsm' aprm' tzm' spom' wrom' numm' nuAm' stlm' spem' wanm' foum' hM => ?_)⟩
  refine And.intro (fun _ => ?_) (fun q => absurd rfl q)
  exact next _ _ ⟨_, _, _, _, _, _, _, _, _, _, _, _, _, _, _, _, _, _, _, _, _, _, _, _, _, _, _, _, _, _, _, _, _, _, _, _, _, _, _, _, _, _, _, _, _, _, _, _, _, _, _, _, _, _, _, _, _, _, _, _, _, _, _, _, _, _, _, _, _, _, _, _, _, _, _, _, _, _, _, _, rfl, hA, hM⟩
set_option maxRecDepth 20000 in
theorem law_35 (l : Launch) {Post : Option Value → List AE → Prop} {S : St} {N i : Nat} {X : Nat → Int} (hX : ∀ k, ir (X k)) (hi : i + 6 ≤ N) (hN : N ≤ 3072) {f_ s_ t_ f1_ s1_ t1_ f2_ s2_ t2_ tb_ f3_ s3_ t3_ nu_ ln_ sp_ ls_ g_ ta_ pl_ : Nat → Int32} {pf_ ps_ pt_ : Nat → Nat → Int32} {fi_ hz_ ks_ tz_ ra_ rf_ rt_ la_ lb_ lc_ mp_ mv_ mk_ mo_ my_ mw_ ma_ ml_ ak_ dy_ br_ ad_ dp_ lm_ rs_ len_ : Int32} {nowm wasm keptm iskm lnm spm lsm ldm tbm rdm : Nat → Int32} {undm gonm lefm akm vnm dym asdm lmam limm ream stsm aprm tzm spom wrom numm nuAm stlm spem wanm foum : Int32} (hA : isA S (wA f_ s_ t_ f1_ s1_ t1_ f2_ s2_ t2_ tb_ f3_ s3_ t3_ nu_ ln_ sp_ ls_ g_ ta_ pl_ pf_ ps_ pt_ fi_ hz_ ks_ tz_ ra_ rf_ rt_ la_ lb_ lc_ mp_ mv_ mk_ mo_ my_ mw_ ma_ ml_ ak_ dy_ br_ ad_ dp_ lm_ rs_ len_)) (hM : isMd S (wMd nowm wasm keptm iskm lnm spm lsm ldm tbm rdm undm gonm lefm akm vnm dym asdm lmam limm ream stsm aprm tzm spom wrom numm nuAm stlm spem wanm foum)) (next : ∀ (S' : St) (σ : List AE), LW S' σ → LAt l N X Post i 1780 σ) : LAt l N X Post i 1476 (wL f_ s_ t_ f1_ s1_ t1_ f2_ s2_ t2_ tb_ f3_ s3_ t3_ nu_ ln_ sp_ ls_ g_ ta_ pl_ pf_ ps_ pt_ fi_ hz_ ks_ tz_ ra_ rf_ rt_ la_ lb_ lc_ mp_ mv_ mk_ mo_ my_ mw_ ma_ ml_ ak_ dy_ br_ ad_ dp_ lm_ rs_ len_ nowm wasm keptm iskm lnm spm lsm ldm tbm rdm undm gonm lefm akm vnm dym asdm lmam limm ream stsm aprm tzm spom wrom numm nuAm stlm spem wanm foum) := by
  refine AW.go (bs := bLa35 ++ bLb35) [1780] 80 (z_chk_app tLa35 tLb35) ?_
  refine And.intro (zx_in (by omega) hN) ?_
  show ∃ sp : Sp, _
  refine callLA (fun _ => rfl) (v_letter l) (by decide) rfl ⟨S, hA, _, rfl, hX _, kkLA (fun f' s' t' f1' s1' t1' f2' s2' t2' tb' f3' s3' t3' nu' ln' sp' ls' g' ta' pl' pf' ps' pt' fi' hz' ks' tz' ra' rf' rt' la' lb' lc' mp' mv' mk' mo' my' mw' ma' ml' ak' dy' br' ad' dp' lm' rs' len' hA => ?_)⟩
  refine And.intro (zx_in (by omega) hN) ?_
  show ∃ sp : Sp, _
  refine callLM (fun _ => rfl) (v_mletter l) (by decide) rfl ⟨S, hM, _, rfl, hX _, kkLM (fun nowm' wasm' keptm' iskm' lnm' spm' lsm' ldm' tbm' rdm' undm' gonm' lefm' akm' vnm' dym' asdm' lmam' limm' ream' stsm' aprm' tzm' spom' wrom' numm' nuAm' stlm' spem' wanm' foum' hM => ?_)⟩
  refine And.intro (fun _ => ?_) (fun q => absurd rfl q)
  exact next _ _ ⟨_, _, _, _, _, _, _, _, _, _, _, _, _, _, _, _, _, _, _, _, _, _, _, _, _, _, _, _, _, _, _, _, _, _, _, _, _, _, _, _, _, _, _, _, _, _, _, _, _, _, _, _, _, _, _, _, _, _, _, _, _, _, _, _, _, _, _, _, _, _, _, _, _, _, _, _, _, _, _, _, rfl, hA, hM⟩
set_option maxRecDepth 20000 in
theorem law_36 (l : Launch) {Post : Option Value → List AE → Prop} {S : St} {N i : Nat} {X : Nat → Int} (hX : ∀ k, ir (X k)) (hi : i + 6 ≤ N) (hN : N ≤ 3072) {f_ s_ t_ f1_ s1_ t1_ f2_ s2_ t2_ tb_ f3_ s3_ t3_ nu_ ln_ sp_ ls_ g_ ta_ pl_ : Nat → Int32} {pf_ ps_ pt_ : Nat → Nat → Int32} {fi_ hz_ ks_ tz_ ra_ rf_ rt_ la_ lb_ lc_ mp_ mv_ mk_ mo_ my_ mw_ ma_ ml_ ak_ dy_ br_ ad_ dp_ lm_ rs_ len_ : Int32} {nowm wasm keptm iskm lnm spm lsm ldm tbm rdm : Nat → Int32} {undm gonm lefm akm vnm dym asdm lmam limm ream stsm aprm tzm spom wrom numm nuAm stlm spem wanm foum : Int32} (hA : isA S (wA f_ s_ t_ f1_ s1_ t1_ f2_ s2_ t2_ tb_ f3_ s3_ t3_ nu_ ln_ sp_ ls_ g_ ta_ pl_ pf_ ps_ pt_ fi_ hz_ ks_ tz_ ra_ rf_ rt_ la_ lb_ lc_ mp_ mv_ mk_ mo_ my_ mw_ ma_ ml_ ak_ dy_ br_ ad_ dp_ lm_ rs_ len_)) (hM : isMd S (wMd nowm wasm keptm iskm lnm spm lsm ldm tbm rdm undm gonm lefm akm vnm dym asdm lmam limm ream stsm aprm tzm spom wrom numm nuAm stlm spem wanm foum)) (next : ∀ (S' : St) (σ : List AE), LW S' σ → LAt l N X Post i 1780 σ) : LAt l N X Post i 1499 (wL f_ s_ t_ f1_ s1_ t1_ f2_ s2_ t2_ tb_ f3_ s3_ t3_ nu_ ln_ sp_ ls_ g_ ta_ pl_ pf_ ps_ pt_ fi_ hz_ ks_ tz_ ra_ rf_ rt_ la_ lb_ lc_ mp_ mv_ mk_ mo_ my_ mw_ ma_ ml_ ak_ dy_ br_ ad_ dp_ lm_ rs_ len_ nowm wasm keptm iskm lnm spm lsm ldm tbm rdm undm gonm lefm akm vnm dym asdm lmam limm ream stsm aprm tzm spom wrom numm nuAm stlm spem wanm foum) := by
  refine AW.go (bs := bLa36 ++ bLb36) [1780] 80 (z_chk_app tLa36 tLb36) ?_
  refine And.intro (zx_in (by omega) hN) ?_
  refine And.intro (zx_in (by omega) hN) ?_
  refine And.intro (zx_in (by omega) hN) ?_
  refine And.intro (zx_in (by omega) hN) ?_
  show ∃ sp : Sp, _
  refine callLA (fun _ => rfl) (v_soonest l) (by decide) rfl ⟨S, hA, _, _, _, _, rfl, hX _, hX _, hX _, hX _, kkLA (fun f' s' t' f1' s1' t1' f2' s2' t2' tb' f3' s3' t3' nu' ln' sp' ls' g' ta' pl' pf' ps' pt' fi' hz' ks' tz' ra' rf' rt' la' lb' lc' mp' mv' mk' mo' my' mw' ma' ml' ak' dy' br' ad' dp' lm' rs' len' hA => ?_)⟩
  refine And.intro (zx_in (by omega) hN) ?_
  refine And.intro (zx_in (by omega) hN) ?_
  refine And.intro (zx_in (by omega) hN) ?_
  refine And.intro (zx_in (by omega) hN) ?_
  show ∃ sp : Sp, _
  refine callLM (fun _ => rfl) (v_msoonest l) (by decide) rfl ⟨S, hM, _, _, _, _, rfl, hX _, hX _, hX _, hX _, kkLM (fun nowm' wasm' keptm' iskm' lnm' spm' lsm' ldm' tbm' rdm' undm' gonm' lefm' akm' vnm' dym' asdm' lmam' limm' ream' stsm' aprm' tzm' spom' wrom' numm' nuAm' stlm' spem' wanm' foum' hM => ?_)⟩
  refine And.intro (fun _ => ?_) (fun q => absurd rfl q)
  exact next _ _ ⟨_, _, _, _, _, _, _, _, _, _, _, _, _, _, _, _, _, _, _, _, _, _, _, _, _, _, _, _, _, _, _, _, _, _, _, _, _, _, _, _, _, _, _, _, _, _, _, _, _, _, _, _, _, _, _, _, _, _, _, _, _, _, _, _, _, _, _, _, _, _, _, _, _, _, _, _, _, _, _, _, rfl, hA, hM⟩
set_option maxRecDepth 20000 in
theorem law_37 (l : Launch) {Post : Option Value → List AE → Prop} {S : St} {N i : Nat} {X : Nat → Int} (hX : ∀ k, ir (X k)) (hi : i + 6 ≤ N) (hN : N ≤ 3072) {f_ s_ t_ f1_ s1_ t1_ f2_ s2_ t2_ tb_ f3_ s3_ t3_ nu_ ln_ sp_ ls_ g_ ta_ pl_ : Nat → Int32} {pf_ ps_ pt_ : Nat → Nat → Int32} {fi_ hz_ ks_ tz_ ra_ rf_ rt_ la_ lb_ lc_ mp_ mv_ mk_ mo_ my_ mw_ ma_ ml_ ak_ dy_ br_ ad_ dp_ lm_ rs_ len_ : Int32} {nowm wasm keptm iskm lnm spm lsm ldm tbm rdm : Nat → Int32} {undm gonm lefm akm vnm dym asdm lmam limm ream stsm aprm tzm spom wrom numm nuAm stlm spem wanm foum : Int32} (hA : isA S (wA f_ s_ t_ f1_ s1_ t1_ f2_ s2_ t2_ tb_ f3_ s3_ t3_ nu_ ln_ sp_ ls_ g_ ta_ pl_ pf_ ps_ pt_ fi_ hz_ ks_ tz_ ra_ rf_ rt_ la_ lb_ lc_ mp_ mv_ mk_ mo_ my_ mw_ ma_ ml_ ak_ dy_ br_ ad_ dp_ lm_ rs_ len_)) (hM : isMd S (wMd nowm wasm keptm iskm lnm spm lsm ldm tbm rdm undm gonm lefm akm vnm dym asdm lmam limm ream stsm aprm tzm spom wrom numm nuAm stlm spem wanm foum)) (next : ∀ (S' : St) (σ : List AE), LW S' σ → LAt l N X Post i 1780 σ) : LAt l N X Post i 1552 (wL f_ s_ t_ f1_ s1_ t1_ f2_ s2_ t2_ tb_ f3_ s3_ t3_ nu_ ln_ sp_ ls_ g_ ta_ pl_ pf_ ps_ pt_ fi_ hz_ ks_ tz_ ra_ rf_ rt_ la_ lb_ lc_ mp_ mv_ mk_ mo_ my_ mw_ ma_ ml_ ak_ dy_ br_ ad_ dp_ lm_ rs_ len_ nowm wasm keptm iskm lnm spm lsm ldm tbm rdm undm gonm lefm akm vnm dym asdm lmam limm ream stsm aprm tzm spom wrom numm nuAm stlm spem wanm foum) := by
  refine AW.go (bs := bLa37 ++ bLb37) [1780] 80 (z_chk_app tLa37 tLb37) ?_
  refine And.intro (zx_in (by omega) hN) ?_
  refine And.intro (zx_in (by omega) hN) ?_
  refine And.intro (zx_in (by omega) hN) ?_
  show ∃ sp : Sp, _
  refine callLA (fun _ => rfl) (v_instead l) (by decide) rfl ⟨S, hA, _, _, _, rfl, hX _, hX _, hX _, kkLA (fun f' s' t' f1' s1' t1' f2' s2' t2' tb' f3' s3' t3' nu' ln' sp' ls' g' ta' pl' pf' ps' pt' fi' hz' ks' tz' ra' rf' rt' la' lb' lc' mp' mv' mk' mo' my' mw' ma' ml' ak' dy' br' ad' dp' lm' rs' len' hA => ?_)⟩
  refine And.intro (zx_in (by omega) hN) ?_
  refine And.intro (zx_in (by omega) hN) ?_
  refine And.intro (zx_in (by omega) hN) ?_
  show ∃ sp : Sp, _
  refine callLM (fun _ => rfl) (v_minstead l) (by decide) rfl ⟨S, hM, _, _, _, rfl, hX _, hX _, hX _, kkLM (fun nowm' wasm' keptm' iskm' lnm' spm' lsm' ldm' tbm' rdm' undm' gonm' lefm' akm' vnm' dym' asdm' lmam' limm' ream' stsm' aprm' tzm' spom' wrom' numm' nuAm' stlm' spem' wanm' foum' hM => ?_)⟩
  refine And.intro (fun _ => ?_) (fun q => absurd rfl q)
  exact next _ _ ⟨_, _, _, _, _, _, _, _, _, _, _, _, _, _, _, _, _, _, _, _, _, _, _, _, _, _, _, _, _, _, _, _, _, _, _, _, _, _, _, _, _, _, _, _, _, _, _, _, _, _, _, _, _, _, _, _, _, _, _, _, _, _, _, _, _, _, _, _, _, _, _, _, _, _, _, _, _, _, _, _, rfl, hA, hM⟩
set_option maxRecDepth 20000 in
theorem law_38 (l : Launch) {Post : Option Value → List AE → Prop} {S : St} {N i : Nat} {X : Nat → Int} (hX : ∀ k, ir (X k)) (hi : i + 6 ≤ N) (hN : N ≤ 3072) {f_ s_ t_ f1_ s1_ t1_ f2_ s2_ t2_ tb_ f3_ s3_ t3_ nu_ ln_ sp_ ls_ g_ ta_ pl_ : Nat → Int32} {pf_ ps_ pt_ : Nat → Nat → Int32} {fi_ hz_ ks_ tz_ ra_ rf_ rt_ la_ lb_ lc_ mp_ mv_ mk_ mo_ my_ mw_ ma_ ml_ ak_ dy_ br_ ad_ dp_ lm_ rs_ len_ : Int32} {nowm wasm keptm iskm lnm spm lsm ldm tbm rdm : Nat → Int32} {undm gonm lefm akm vnm dym asdm lmam limm ream stsm aprm tzm spom wrom numm nuAm stlm spem wanm foum : Int32} (hA : isA S (wA f_ s_ t_ f1_ s1_ t1_ f2_ s2_ t2_ tb_ f3_ s3_ t3_ nu_ ln_ sp_ ls_ g_ ta_ pl_ pf_ ps_ pt_ fi_ hz_ ks_ tz_ ra_ rf_ rt_ la_ lb_ lc_ mp_ mv_ mk_ mo_ my_ mw_ ma_ ml_ ak_ dy_ br_ ad_ dp_ lm_ rs_ len_)) (hM : isMd S (wMd nowm wasm keptm iskm lnm spm lsm ldm tbm rdm undm gonm lefm akm vnm dym asdm lmam limm ream stsm aprm tzm spom wrom numm nuAm stlm spem wanm foum)) (next : ∀ (S' : St) (σ : List AE), LW S' σ → LAt l N X Post i 1780 σ) : LAt l N X Post i 1595 (wL f_ s_ t_ f1_ s1_ t1_ f2_ s2_ t2_ tb_ f3_ s3_ t3_ nu_ ln_ sp_ ls_ g_ ta_ pl_ pf_ ps_ pt_ fi_ hz_ ks_ tz_ ra_ rf_ rt_ la_ lb_ lc_ mp_ mv_ mk_ mo_ my_ mw_ ma_ ml_ ak_ dy_ br_ ad_ dp_ lm_ rs_ len_ nowm wasm keptm iskm lnm spm lsm ldm tbm rdm undm gonm lefm akm vnm dym asdm lmam limm ream stsm aprm tzm spom wrom numm nuAm stlm spem wanm foum) := by
  refine AW.go (bs := bLa38 ++ bLb38) [1780] 80 (z_chk_app tLa38 tLb38) ?_
  refine And.intro (zx_in (by omega) hN) ?_
  show ∃ sp : Sp, _
  refine callLA (fun _ => rfl) (v_pillar l) (by decide) rfl ⟨S, hA, _, rfl, hX _, kkLA (fun f' s' t' f1' s1' t1' f2' s2' t2' tb' f3' s3' t3' nu' ln' sp' ls' g' ta' pl' pf' ps' pt' fi' hz' ks' tz' ra' rf' rt' la' lb' lc' mp' mv' mk' mo' my' mw' ma' ml' ak' dy' br' ad' dp' lm' rs' len' hA => ?_)⟩
  refine And.intro (zx_in (by omega) hN) ?_
  show ∃ sp : Sp, _
  refine callLM (fun _ => rfl) (v_mpillar l) (by decide) rfl ⟨S, hM, _, rfl, hX _, kkLM (fun nowm' wasm' keptm' iskm' lnm' spm' lsm' ldm' tbm' rdm' undm' gonm' lefm' akm' vnm' dym' asdm' lmam' limm' ream' stsm' aprm' tzm' spom' wrom' numm' nuAm' stlm' spem' wanm' foum' hM => ?_)⟩
  refine And.intro (fun _ => ?_) (fun q => absurd rfl q)
  exact next _ _ ⟨_, _, _, _, _, _, _, _, _, _, _, _, _, _, _, _, _, _, _, _, _, _, _, _, _, _, _, _, _, _, _, _, _, _, _, _, _, _, _, _, _, _, _, _, _, _, _, _, _, _, _, _, _, _, _, _, _, _, _, _, _, _, _, _, _, _, _, _, _, _, _, _, _, _, _, _, _, _, _, _, rfl, hA, hM⟩
set_option maxRecDepth 20000 in
theorem law_39 (l : Launch) {Post : Option Value → List AE → Prop} {S : St} {N i : Nat} {X : Nat → Int} (hX : ∀ k, ir (X k)) (hi : i + 6 ≤ N) (hN : N ≤ 3072) {f_ s_ t_ f1_ s1_ t1_ f2_ s2_ t2_ tb_ f3_ s3_ t3_ nu_ ln_ sp_ ls_ g_ ta_ pl_ : Nat → Int32} {pf_ ps_ pt_ : Nat → Nat → Int32} {fi_ hz_ ks_ tz_ ra_ rf_ rt_ la_ lb_ lc_ mp_ mv_ mk_ mo_ my_ mw_ ma_ ml_ ak_ dy_ br_ ad_ dp_ lm_ rs_ len_ : Int32} {nowm wasm keptm iskm lnm spm lsm ldm tbm rdm : Nat → Int32} {undm gonm lefm akm vnm dym asdm lmam limm ream stsm aprm tzm spom wrom numm nuAm stlm spem wanm foum : Int32} (hA : isA S (wA f_ s_ t_ f1_ s1_ t1_ f2_ s2_ t2_ tb_ f3_ s3_ t3_ nu_ ln_ sp_ ls_ g_ ta_ pl_ pf_ ps_ pt_ fi_ hz_ ks_ tz_ ra_ rf_ rt_ la_ lb_ lc_ mp_ mv_ mk_ mo_ my_ mw_ ma_ ml_ ak_ dy_ br_ ad_ dp_ lm_ rs_ len_)) (hM : isMd S (wMd nowm wasm keptm iskm lnm spm lsm ldm tbm rdm undm gonm lefm akm vnm dym asdm lmam limm ream stsm aprm tzm spom wrom numm nuAm stlm spem wanm foum)) (next : ∀ (S' : St) (σ : List AE), LW S' σ → LAt l N X Post i 1780 σ) : LAt l N X Post i 1618 (wL f_ s_ t_ f1_ s1_ t1_ f2_ s2_ t2_ tb_ f3_ s3_ t3_ nu_ ln_ sp_ ls_ g_ ta_ pl_ pf_ ps_ pt_ fi_ hz_ ks_ tz_ ra_ rf_ rt_ la_ lb_ lc_ mp_ mv_ mk_ mo_ my_ mw_ ma_ ml_ ak_ dy_ br_ ad_ dp_ lm_ rs_ len_ nowm wasm keptm iskm lnm spm lsm ldm tbm rdm undm gonm lefm akm vnm dym asdm lmam limm ream stsm aprm tzm spom wrom numm nuAm stlm spem wanm foum) := by
  refine AW.go (bs := bLa39 ++ bLb39) [1780] 80 (z_chk_app tLa39 tLb39) ?_
  refine And.intro (zx_in (by omega) hN) ?_
  refine And.intro (zx_in (by omega) hN) ?_
  refine And.intro (zx_in (by omega) hN) ?_
  refine And.intro (zx_in (by omega) hN) ?_
  show ∃ sp : Sp, _
  refine callLA (fun _ => rfl) (v_gap l) (by decide) rfl ⟨S, hA, _, _, _, _, rfl, hX _, hX _, hX _, hX _, kkLA (fun f' s' t' f1' s1' t1' f2' s2' t2' tb' f3' s3' t3' nu' ln' sp' ls' g' ta' pl' pf' ps' pt' fi' hz' ks' tz' ra' rf' rt' la' lb' lc' mp' mv' mk' mo' my' mw' ma' ml' ak' dy' br' ad' dp' lm' rs' len' hA => ?_)⟩
  refine And.intro (zx_in (by omega) hN) ?_
  refine And.intro (zx_in (by omega) hN) ?_
  refine And.intro (zx_in (by omega) hN) ?_
  refine And.intro (zx_in (by omega) hN) ?_
  show ∃ sp : Sp, _
  refine callLM (fun _ => rfl) (v_mgap l) (by decide) rfl ⟨S, hM, _, _, _, _, rfl, hX _, hX _, hX _, hX _, kkLM (fun nowm' wasm' keptm' iskm' lnm' spm' lsm' ldm' tbm' rdm' undm' gonm' lefm' akm' vnm' dym' asdm' lmam' limm' ream' stsm' aprm' tzm' spom' wrom' numm' nuAm' stlm' spem' wanm' foum' hM => ?_)⟩
  refine And.intro (fun _ => ?_) (fun q => absurd rfl q)
  exact next _ _ ⟨_, _, _, _, _, _, _, _, _, _, _, _, _, _, _, _, _, _, _, _, _, _, _, _, _, _, _, _, _, _, _, _, _, _, _, _, _, _, _, _, _, _, _, _, _, _, _, _, _, _, _, _, _, _, _, _, _, _, _, _, _, _, _, _, _, _, _, _, _, _, _, _, _, _, _, _, _, _, _, _, rfl, hA, hM⟩
set_option maxRecDepth 20000 in
theorem law_40 (l : Launch) {Post : Option Value → List AE → Prop} {S : St} {N i : Nat} {X : Nat → Int} (hX : ∀ k, ir (X k)) (hi : i + 6 ≤ N) (hN : N ≤ 3072) {f_ s_ t_ f1_ s1_ t1_ f2_ s2_ t2_ tb_ f3_ s3_ t3_ nu_ ln_ sp_ ls_ g_ ta_ pl_ : Nat → Int32} {pf_ ps_ pt_ : Nat → Nat → Int32} {fi_ hz_ ks_ tz_ ra_ rf_ rt_ la_ lb_ lc_ mp_ mv_ mk_ mo_ my_ mw_ ma_ ml_ ak_ dy_ br_ ad_ dp_ lm_ rs_ len_ : Int32} {nowm wasm keptm iskm lnm spm lsm ldm tbm rdm : Nat → Int32} {undm gonm lefm akm vnm dym asdm lmam limm ream stsm aprm tzm spom wrom numm nuAm stlm spem wanm foum : Int32} (hA : isA S (wA f_ s_ t_ f1_ s1_ t1_ f2_ s2_ t2_ tb_ f3_ s3_ t3_ nu_ ln_ sp_ ls_ g_ ta_ pl_ pf_ ps_ pt_ fi_ hz_ ks_ tz_ ra_ rf_ rt_ la_ lb_ lc_ mp_ mv_ mk_ mo_ my_ mw_ ma_ ml_ ak_ dy_ br_ ad_ dp_ lm_ rs_ len_)) (hM : isMd S (wMd nowm wasm keptm iskm lnm spm lsm ldm tbm rdm undm gonm lefm akm vnm dym asdm lmam limm ream stsm aprm tzm spom wrom numm nuAm stlm spem wanm foum)) (next : ∀ (S' : St) (σ : List AE), LW S' σ → LAt l N X Post i 1780 σ) : LAt l N X Post i 1671 (wL f_ s_ t_ f1_ s1_ t1_ f2_ s2_ t2_ tb_ f3_ s3_ t3_ nu_ ln_ sp_ ls_ g_ ta_ pl_ pf_ ps_ pt_ fi_ hz_ ks_ tz_ ra_ rf_ rt_ la_ lb_ lc_ mp_ mv_ mk_ mo_ my_ mw_ ma_ ml_ ak_ dy_ br_ ad_ dp_ lm_ rs_ len_ nowm wasm keptm iskm lnm spm lsm ldm tbm rdm undm gonm lefm akm vnm dym asdm lmam limm ream stsm aprm tzm spom wrom numm nuAm stlm spem wanm foum) := by
  refine AW.go (bs := bLa40 ++ bLb40) [1780] 80 (z_chk_app tLa40 tLb40) ?_
  refine And.intro (zx_in (by omega) hN) ?_
  refine And.intro (zx_in (by omega) hN) ?_
  refine And.intro (zx_in (by omega) hN) ?_
  refine And.intro (zx_in (by omega) hN) ?_
  refine And.intro (zx_in (by omega) hN) ?_
  show ∃ sp : Sp, _
  refine callLA (fun _ => rfl) (v_dodge l) (by decide) rfl ⟨S, hA, _, _, _, _, _, rfl, hX _, hX _, hX _, hX _, hX _, kkLA (fun f' s' t' f1' s1' t1' f2' s2' t2' tb' f3' s3' t3' nu' ln' sp' ls' g' ta' pl' pf' ps' pt' fi' hz' ks' tz' ra' rf' rt' la' lb' lc' mp' mv' mk' mo' my' mw' ma' ml' ak' dy' br' ad' dp' lm' rs' len' hA => ?_)⟩
  refine And.intro (zx_in (by omega) hN) ?_
  refine And.intro (zx_in (by omega) hN) ?_
  refine And.intro (zx_in (by omega) hN) ?_
  refine And.intro (zx_in (by omega) hN) ?_
  refine And.intro (zx_in (by omega) hN) ?_
  show ∃ sp : Sp, _
  refine callLM (fun _ => rfl) (v_mdodge l) (by decide) rfl ⟨S, hM, _, _, _, _, _, rfl, hX _, hX _, hX _, hX _, hX _, kkLM (fun nowm' wasm' keptm' iskm' lnm' spm' lsm' ldm' tbm' rdm' undm' gonm' lefm' akm' vnm' dym' asdm' lmam' limm' ream' stsm' aprm' tzm' spom' wrom' numm' nuAm' stlm' spem' wanm' foum' hM => ?_)⟩
  refine And.intro (fun _ => ?_) (fun q => absurd rfl q)
  exact next _ _ ⟨_, _, _, _, _, _, _, _, _, _, _, _, _, _, _, _, _, _, _, _, _, _, _, _, _, _, _, _, _, _, _, _, _, _, _, _, _, _, _, _, _, _, _, _, _, _, _, _, _, _, _, _, _, _, _, _, _, _, _, _, _, _, _, _, _, _, _, _, _, _, _, _, _, _, _, _, _, _, _, _, rfl, hA, hM⟩
set_option maxRecDepth 20000 in
theorem law_41 (l : Launch) {Post : Option Value → List AE → Prop} {S : St} {N i : Nat} {X : Nat → Int} (hX : ∀ k, ir (X k)) (hi : i + 6 ≤ N) (hN : N ≤ 3072) {f_ s_ t_ f1_ s1_ t1_ f2_ s2_ t2_ tb_ f3_ s3_ t3_ nu_ ln_ sp_ ls_ g_ ta_ pl_ : Nat → Int32} {pf_ ps_ pt_ : Nat → Nat → Int32} {fi_ hz_ ks_ tz_ ra_ rf_ rt_ la_ lb_ lc_ mp_ mv_ mk_ mo_ my_ mw_ ma_ ml_ ak_ dy_ br_ ad_ dp_ lm_ rs_ len_ : Int32} {nowm wasm keptm iskm lnm spm lsm ldm tbm rdm : Nat → Int32} {undm gonm lefm akm vnm dym asdm lmam limm ream stsm aprm tzm spom wrom numm nuAm stlm spem wanm foum : Int32} (hA : isA S (wA f_ s_ t_ f1_ s1_ t1_ f2_ s2_ t2_ tb_ f3_ s3_ t3_ nu_ ln_ sp_ ls_ g_ ta_ pl_ pf_ ps_ pt_ fi_ hz_ ks_ tz_ ra_ rf_ rt_ la_ lb_ lc_ mp_ mv_ mk_ mo_ my_ mw_ ma_ ml_ ak_ dy_ br_ ad_ dp_ lm_ rs_ len_)) (hM : isMd S (wMd nowm wasm keptm iskm lnm spm lsm ldm tbm rdm undm gonm lefm akm vnm dym asdm lmam limm ream stsm aprm tzm spom wrom numm nuAm stlm spem wanm foum)) (next : ∀ (S' : St) (σ : List AE), LW S' σ → LAt l N X Post i 1780 σ) : LAt l N X Post i 1734 (wL f_ s_ t_ f1_ s1_ t1_ f2_ s2_ t2_ tb_ f3_ s3_ t3_ nu_ ln_ sp_ ls_ g_ ta_ pl_ pf_ ps_ pt_ fi_ hz_ ks_ tz_ ra_ rf_ rt_ la_ lb_ lc_ mp_ mv_ mk_ mo_ my_ mw_ ma_ ml_ ak_ dy_ br_ ad_ dp_ lm_ rs_ len_ nowm wasm keptm iskm lnm spm lsm ldm tbm rdm undm gonm lefm akm vnm dym asdm lmam limm ream stsm aprm tzm spom wrom numm nuAm stlm spem wanm foum) := by
  refine AW.go (bs := bLa41 ++ bLb41) [1780] 80 (z_chk_app tLa41 tLb41) ?_
  refine And.intro (zx_in (by omega) hN) ?_
  show ∃ sp : Sp, _
  refine callLA (fun _ => rfl) (v_tangle l) (by decide) rfl ⟨S, hA, _, rfl, hX _, kkLA (fun f' s' t' f1' s1' t1' f2' s2' t2' tb' f3' s3' t3' nu' ln' sp' ls' g' ta' pl' pf' ps' pt' fi' hz' ks' tz' ra' rf' rt' la' lb' lc' mp' mv' mk' mo' my' mw' ma' ml' ak' dy' br' ad' dp' lm' rs' len' hA => ?_)⟩
  refine And.intro (zx_in (by omega) hN) ?_
  show ∃ sp : Sp, _
  refine callLM (fun _ => rfl) (v_mtangle l) (by decide) rfl ⟨S, hM, _, rfl, hX _, kkLM (fun nowm' wasm' keptm' iskm' lnm' spm' lsm' ldm' tbm' rdm' undm' gonm' lefm' akm' vnm' dym' asdm' lmam' limm' ream' stsm' aprm' tzm' spom' wrom' numm' nuAm' stlm' spem' wanm' foum' hM => ?_)⟩
  refine And.intro (fun _ => ?_) (fun q => absurd rfl q)
  exact next _ _ ⟨_, _, _, _, _, _, _, _, _, _, _, _, _, _, _, _, _, _, _, _, _, _, _, _, _, _, _, _, _, _, _, _, _, _, _, _, _, _, _, _, _, _, _, _, _, _, _, _, _, _, _, _, _, _, _, _, _, _, _, _, _, _, _, _, _, _, _, _, _, _, _, _, _, _, _, _, _, _, _, _, rfl, hA, hM⟩
set_option maxRecDepth 20000 in
theorem law_42 (l : Launch) {Post : Option Value → List AE → Prop} {S : St} {N i : Nat} {X : Nat → Int} (hX : ∀ k, ir (X k)) (hi : i + 6 ≤ N) (hN : N ≤ 3072) {f_ s_ t_ f1_ s1_ t1_ f2_ s2_ t2_ tb_ f3_ s3_ t3_ nu_ ln_ sp_ ls_ g_ ta_ pl_ : Nat → Int32} {pf_ ps_ pt_ : Nat → Nat → Int32} {fi_ hz_ ks_ tz_ ra_ rf_ rt_ la_ lb_ lc_ mp_ mv_ mk_ mo_ my_ mw_ ma_ ml_ ak_ dy_ br_ ad_ dp_ lm_ rs_ len_ : Int32} {nowm wasm keptm iskm lnm spm lsm ldm tbm rdm : Nat → Int32} {undm gonm lefm akm vnm dym asdm lmam limm ream stsm aprm tzm spom wrom numm nuAm stlm spem wanm foum : Int32} (hA : isA S (wA f_ s_ t_ f1_ s1_ t1_ f2_ s2_ t2_ tb_ f3_ s3_ t3_ nu_ ln_ sp_ ls_ g_ ta_ pl_ pf_ ps_ pt_ fi_ hz_ ks_ tz_ ra_ rf_ rt_ la_ lb_ lc_ mp_ mv_ mk_ mo_ my_ mw_ ma_ ml_ ak_ dy_ br_ ad_ dp_ lm_ rs_ len_)) (hM : isMd S (wMd nowm wasm keptm iskm lnm spm lsm ldm tbm rdm undm gonm lefm akm vnm dym asdm lmam limm ream stsm aprm tzm spom wrom numm nuAm stlm spem wanm foum)) (next : ∀ (S' : St) (σ : List AE), LW S' σ → LAt l N X Post i 1780 σ) : LAt l N X Post i 1757 (wL f_ s_ t_ f1_ s1_ t1_ f2_ s2_ t2_ tb_ f3_ s3_ t3_ nu_ ln_ sp_ ls_ g_ ta_ pl_ pf_ ps_ pt_ fi_ hz_ ks_ tz_ ra_ rf_ rt_ la_ lb_ lc_ mp_ mv_ mk_ mo_ my_ mw_ ma_ ml_ ak_ dy_ br_ ad_ dp_ lm_ rs_ len_ nowm wasm keptm iskm lnm spm lsm ldm tbm rdm undm gonm lefm akm vnm dym asdm lmam limm ream stsm aprm tzm spom wrom numm nuAm stlm spem wanm foum) := by
  refine AW.go (bs := bLa42 ++ bLb42) [1780] 80 (z_chk_app tLa42 tLb42) ?_
  refine And.intro (zx_in (by omega) hN) ?_
  show ∃ sp : Sp, _
  refine callLA (fun _ => rfl) (v_count l) (by decide) rfl ⟨S, hA, _, rfl, hX _, kkLA (fun f' s' t' f1' s1' t1' f2' s2' t2' tb' f3' s3' t3' nu' ln' sp' ls' g' ta' pl' pf' ps' pt' fi' hz' ks' tz' ra' rf' rt' la' lb' lc' mp' mv' mk' mo' my' mw' ma' ml' ak' dy' br' ad' dp' lm' rs' len' hA => ?_)⟩
  refine And.intro (zx_in (by omega) hN) ?_
  show ∃ sp : Sp, _
  refine callLM (fun _ => rfl) (v_mcount l) (by decide) rfl ⟨S, hM, _, rfl, hX _, kkLM (fun nowm' wasm' keptm' iskm' lnm' spm' lsm' ldm' tbm' rdm' undm' gonm' lefm' akm' vnm' dym' asdm' lmam' limm' ream' stsm' aprm' tzm' spom' wrom' numm' nuAm' stlm' spem' wanm' foum' hM => ?_)⟩
  refine And.intro (fun _ => ?_) (fun q => absurd rfl q)
  exact next _ _ ⟨_, _, _, _, _, _, _, _, _, _, _, _, _, _, _, _, _, _, _, _, _, _, _, _, _, _, _, _, _, _, _, _, _, _, _, _, _, _, _, _, _, _, _, _, _, _, _, _, _, _, _, _, _, _, _, _, _, _, _, _, _, _, _, _, _, _, _, _, _, _, _, _, _, _, _, _, _, _, _, _, rfl, hA, hM⟩
