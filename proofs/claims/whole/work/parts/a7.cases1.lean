set_option maxRecDepth 20000 in
theorem law_0 (l : Launch) {Post : Option Value → List AE → Prop} {S : St} {N i : Nat} {X : Nat → Int} (hX : ∀ k, ir (X k)) (hi : i + 6 ≤ N) (hN : N ≤ 3072) {f_ s_ t_ f1_ s1_ t1_ f2_ s2_ t2_ tb_ f3_ s3_ t3_ nu_ ln_ sp_ ls_ g_ ta_ pl_ : Nat → Int32} {pf_ ps_ pt_ : Nat → Nat → Int32} {fi_ hz_ ks_ tz_ ra_ rf_ rt_ la_ lb_ lc_ mp_ mv_ mk_ mo_ my_ mw_ ma_ ml_ ak_ dy_ br_ ad_ dp_ lm_ rs_ len_ : Int32} {nowm wasm keptm iskm lnm spm lsm ldm tbm rdm : Nat → Int32} {undm gonm lefm akm vnm dym asdm lmam limm ream stsm aprm tzm spom wrom numm nuAm stlm spem wanm foum : Int32} (hA : isA S (wA f_ s_ t_ f1_ s1_ t1_ f2_ s2_ t2_ tb_ f3_ s3_ t3_ nu_ ln_ sp_ ls_ g_ ta_ pl_ pf_ ps_ pt_ fi_ hz_ ks_ tz_ ra_ rf_ rt_ la_ lb_ lc_ mp_ mv_ mk_ mo_ my_ mw_ ma_ ml_ ak_ dy_ br_ ad_ dp_ lm_ rs_ len_)) (hM : isMd S (wMd nowm wasm keptm iskm lnm spm lsm ldm tbm rdm undm gonm lefm akm vnm dym asdm lmam limm ream stsm aprm tzm spom wrom numm nuAm stlm spem wanm foum)) (next : ∀ (S' : St) (σ : List AE), LW S' σ → LAt l N X Post i 1780 σ) : LAt l N X Post i 220 (wL f_ s_ t_ f1_ s1_ t1_ f2_ s2_ t2_ tb_ f3_ s3_ t3_ nu_ ln_ sp_ ls_ g_ ta_ pl_ pf_ ps_ pt_ fi_ hz_ ks_ tz_ ra_ rf_ rt_ la_ lb_ lc_ mp_ mv_ mk_ mo_ my_ mw_ ma_ ml_ ak_ dy_ br_ ad_ dp_ lm_ rs_ len_ nowm wasm keptm iskm lnm spm lsm ldm tbm rdm undm gonm lefm akm vnm dym asdm lmam limm ream stsm aprm tzm spom wrom numm nuAm stlm spem wanm foum) := by
  refine AW.go (bs := bLa0 ++ bLb0) [1780] 80 (z_chk_app tLa0 tLb0) ?_
  refine And.intro (zx_in (by omega) hN) ?_
  refine And.intro (zx_in (by omega) hN) ?_
  refine And.intro (zx_in (by omega) hN) ?_
  refine And.intro (zx_in (by omega) hN) ?_
  refine And.intro (zx_in (by omega) hN) ?_
  show ∃ sp : Sp, _
  refine callLA (fun _ => rfl) (v_feed l) (by decide) rfl ⟨S, hA, _, _, _, _, _, rfl, hX _, hX _, hX _, hX _, hX _, kkLA (fun f' s' t' f1' s1' t1' f2' s2' t2' tb' f3' s3' t3' nu' ln' sp' ls' g' ta' pl' pf' ps' pt' fi' hz' ks' tz' ra' rf' rt' la' lb' lc' mp' mv' mk' mo' my' mw' ma' ml' ak' dy' br' ad' dp' lm' rs' len' hA => ?_)⟩
  refine And.intro (zx_in (by omega) hN) ?_
  refine And.intro (zx_in (by omega) hN) ?_
  refine And.intro (zx_in (by omega) hN) ?_
  refine And.intro (zx_in (by omega) hN) ?_
  refine And.intro (zx_in (by omega) hN) ?_
  show ∃ sp : Sp, _
  refine callLM (fun _ => rfl) (v_mfeed l) (by decide) rfl ⟨S, hM, _, _, _, _, _, rfl, hX _, hX _, hX _, hX _, hX _, kkLM (fun nowm' wasm' keptm' iskm' lnm' spm' lsm' ldm' tbm' rdm' undm' gonm' lefm' akm' vnm' dym' asdm' lmam' limm' ream' stsm' aprm' tzm' spom' wrom' numm' nuAm' stlm' spem' wanm' foum' hM => ?_)⟩
  refine And.intro (fun _ => ?_) (fun q => absurd rfl q)
  exact next _ _ ⟨_, _, _, _, _, _, _, _, _, _, _, _, _, _, _, _, _, _, _, _, _, _, _, _, _, _, _, _, _, _, _, _, _, _, _, _, _, _, _, _, _, _, _, _, _, _, _, _, _, _, _, _, _, _, _, _, _, _, _, _, _, _, _, _, _, _, _, _, _, _, _, _, _, _, _, _, _, _, _, _, rfl, hA, hM⟩
set_option maxRecDepth 20000 in
theorem law_1 (l : Launch) {Post : Option Value → List AE → Prop} {S : St} {N i : Nat} {X : Nat → Int} (hX : ∀ k, ir (X k)) (hi : i + 6 ≤ N) (hN : N ≤ 3072) {f_ s_ t_ f1_ s1_ t1_ f2_ s2_ t2_ tb_ f3_ s3_ t3_ nu_ ln_ sp_ ls_ g_ ta_ pl_ : Nat → Int32} {pf_ ps_ pt_ : Nat → Nat → Int32} {fi_ hz_ ks_ tz_ ra_ rf_ rt_ la_ lb_ lc_ mp_ mv_ mk_ mo_ my_ mw_ ma_ ml_ ak_ dy_ br_ ad_ dp_ lm_ rs_ len_ : Int32} {nowm wasm keptm iskm lnm spm lsm ldm tbm rdm : Nat → Int32} {undm gonm lefm akm vnm dym asdm lmam limm ream stsm aprm tzm spom wrom numm nuAm stlm spem wanm foum : Int32} (hA : isA S (wA f_ s_ t_ f1_ s1_ t1_ f2_ s2_ t2_ tb_ f3_ s3_ t3_ nu_ ln_ sp_ ls_ g_ ta_ pl_ pf_ ps_ pt_ fi_ hz_ ks_ tz_ ra_ rf_ rt_ la_ lb_ lc_ mp_ mv_ mk_ mo_ my_ mw_ ma_ ml_ ak_ dy_ br_ ad_ dp_ lm_ rs_ len_)) (hM : isMd S (wMd nowm wasm keptm iskm lnm spm lsm ldm tbm rdm undm gonm lefm akm vnm dym asdm lmam limm ream stsm aprm tzm spom wrom numm nuAm stlm spem wanm foum)) (next : ∀ (S' : St) (σ : List AE), LW S' σ → LAt l N X Post i 1780 σ) : LAt l N X Post i 283 (wL f_ s_ t_ f1_ s1_ t1_ f2_ s2_ t2_ tb_ f3_ s3_ t3_ nu_ ln_ sp_ ls_ g_ ta_ pl_ pf_ ps_ pt_ fi_ hz_ ks_ tz_ ra_ rf_ rt_ la_ lb_ lc_ mp_ mv_ mk_ mo_ my_ mw_ ma_ ml_ ak_ dy_ br_ ad_ dp_ lm_ rs_ len_ nowm wasm keptm iskm lnm spm lsm ldm tbm rdm undm gonm lefm akm vnm dym asdm lmam limm ream stsm aprm tzm spom wrom numm nuAm stlm spem wanm foum) := by
  refine AW.go (bs := bLa1 ++ bLb1) [1780] 80 (z_chk_app tLa1 tLb1) ?_
  refine And.intro (zx_in (by omega) hN) ?_
  show ∃ sp : Sp, _
  refine callLA (fun _ => rfl) (v_end l) (by decide) rfl ⟨S, hA, _, rfl, hX _, kkLA (fun f' s' t' f1' s1' t1' f2' s2' t2' tb' f3' s3' t3' nu' ln' sp' ls' g' ta' pl' pf' ps' pt' fi' hz' ks' tz' ra' rf' rt' la' lb' lc' mp' mv' mk' mo' my' mw' ma' ml' ak' dy' br' ad' dp' lm' rs' len' hA => ?_)⟩
  refine And.intro (zx_in (by omega) hN) ?_
  show ∃ sp : Sp, _
  refine callLM (fun _ => rfl) (v_mend l) (by decide) rfl ⟨S, hM, _, rfl, hX _, kkLM (fun nowm' wasm' keptm' iskm' lnm' spm' lsm' ldm' tbm' rdm' undm' gonm' lefm' akm' vnm' dym' asdm' lmam' limm' ream' stsm' aprm' tzm' spom' wrom' numm' nuAm' stlm' spem' wanm' foum' hM => ?_)⟩
  refine And.intro (fun _ => ?_) (fun q => absurd rfl q)
  exact next _ _ ⟨_, _, _, _, _, _, _, _, _, _, _, _, _, _, _, _, _, _, _, _, _, _, _, _, _, _, _, _, _, _, _, _, _, _, _, _, _, _, _, _, _, _, _, _, _, _, _, _, _, _, _, _, _, _, _, _, _, _, _, _, _, _, _, _, _, _, _, _, _, _, _, _, _, _, _, _, _, _, _, _, rfl, hA, hM⟩
set_option maxRecDepth 20000 in
theorem law_2 (l : Launch) {Post : Option Value → List AE → Prop} {S : St} {N i : Nat} {X : Nat → Int} (hX : ∀ k, ir (X k)) (hi : i + 6 ≤ N) (hN : N ≤ 3072) {f_ s_ t_ f1_ s1_ t1_ f2_ s2_ t2_ tb_ f3_ s3_ t3_ nu_ ln_ sp_ ls_ g_ ta_ pl_ : Nat → Int32} {pf_ ps_ pt_ : Nat → Nat → Int32} {fi_ hz_ ks_ tz_ ra_ rf_ rt_ la_ lb_ lc_ mp_ mv_ mk_ mo_ my_ mw_ ma_ ml_ ak_ dy_ br_ ad_ dp_ lm_ rs_ len_ : Int32} {nowm wasm keptm iskm lnm spm lsm ldm tbm rdm : Nat → Int32} {undm gonm lefm akm vnm dym asdm lmam limm ream stsm aprm tzm spom wrom numm nuAm stlm spem wanm foum : Int32} (hA : isA S (wA f_ s_ t_ f1_ s1_ t1_ f2_ s2_ t2_ tb_ f3_ s3_ t3_ nu_ ln_ sp_ ls_ g_ ta_ pl_ pf_ ps_ pt_ fi_ hz_ ks_ tz_ ra_ rf_ rt_ la_ lb_ lc_ mp_ mv_ mk_ mo_ my_ mw_ ma_ ml_ ak_ dy_ br_ ad_ dp_ lm_ rs_ len_)) (hM : isMd S (wMd nowm wasm keptm iskm lnm spm lsm ldm tbm rdm undm gonm lefm akm vnm dym asdm lmam limm ream stsm aprm tzm spom wrom numm nuAm stlm spem wanm foum)) (next : ∀ (S' : St) (σ : List AE), LW S' σ → LAt l N X Post i 1780 σ) : LAt l N X Post i 306 (wL f_ s_ t_ f1_ s1_ t1_ f2_ s2_ t2_ tb_ f3_ s3_ t3_ nu_ ln_ sp_ ls_ g_ ta_ pl_ pf_ ps_ pt_ fi_ hz_ ks_ tz_ ra_ rf_ rt_ la_ lb_ lc_ mp_ mv_ mk_ mo_ my_ mw_ ma_ ml_ ak_ dy_ br_ ad_ dp_ lm_ rs_ len_ nowm wasm keptm iskm lnm spm lsm ldm tbm rdm undm gonm lefm akm vnm dym asdm lmam limm ream stsm aprm tzm spom wrom numm nuAm stlm spem wanm foum) := by
  refine AW.go (bs := bLa2 ++ bLb2) [1780] 80 (z_chk_app tLa2 tLb2) ?_
  show ∃ sp : Sp, _
  refine callLA (fun _ => rfl) (v_tell l) (by decide) rfl ⟨S, hA, rfl, kkLA (fun f' s' t' f1' s1' t1' f2' s2' t2' tb' f3' s3' t3' nu' ln' sp' ls' g' ta' pl' pf' ps' pt' fi' hz' ks' tz' ra' rf' rt' la' lb' lc' mp' mv' mk' mo' my' mw' ma' ml' ak' dy' br' ad' dp' lm' rs' len' hA => ?_)⟩
  show ∃ sp : Sp, _
  refine callLM (fun _ => rfl) (v_mtell l) (by decide) rfl ⟨S, hM, rfl, kkLM (fun nowm' wasm' keptm' iskm' lnm' spm' lsm' ldm' tbm' rdm' undm' gonm' lefm' akm' vnm' dym' asdm' lmam' limm' ream' stsm' aprm' tzm' spom' wrom' numm' nuAm' stlm' spem' wanm' foum' hM => ?_)⟩
  refine And.intro (fun _ => ?_) (fun q => absurd rfl q)
  exact next _ _ ⟨_, _, _, _, _, _, _, _, _, _, _, _, _, _, _, _, _, _, _, _, _, _, _, _, _, _, _, _, _, _, _, _, _, _, _, _, _, _, _, _, _, _, _, _, _, _, _, _, _, _, _, _, _, _, _, _, _, _, _, _, _, _, _, _, _, _, _, _, _, _, _, _, _, _, _, _, _, _, _, _, rfl, hA, hM⟩
set_option maxRecDepth 20000 in
theorem law_3 (l : Launch) {Post : Option Value → List AE → Prop} {S : St} {N i : Nat} {X : Nat → Int} (hX : ∀ k, ir (X k)) (hi : i + 6 ≤ N) (hN : N ≤ 3072) {f_ s_ t_ f1_ s1_ t1_ f2_ s2_ t2_ tb_ f3_ s3_ t3_ nu_ ln_ sp_ ls_ g_ ta_ pl_ : Nat → Int32} {pf_ ps_ pt_ : Nat → Nat → Int32} {fi_ hz_ ks_ tz_ ra_ rf_ rt_ la_ lb_ lc_ mp_ mv_ mk_ mo_ my_ mw_ ma_ ml_ ak_ dy_ br_ ad_ dp_ lm_ rs_ len_ : Int32} {nowm wasm keptm iskm lnm spm lsm ldm tbm rdm : Nat → Int32} {undm gonm lefm akm vnm dym asdm lmam limm ream stsm aprm tzm spom wrom numm nuAm stlm spem wanm foum : Int32} (hA : isA S (wA f_ s_ t_ f1_ s1_ t1_ f2_ s2_ t2_ tb_ f3_ s3_ t3_ nu_ ln_ sp_ ls_ g_ ta_ pl_ pf_ ps_ pt_ fi_ hz_ ks_ tz_ ra_ rf_ rt_ la_ lb_ lc_ mp_ mv_ mk_ mo_ my_ mw_ ma_ ml_ ak_ dy_ br_ ad_ dp_ lm_ rs_ len_)) (hM : isMd S (wMd nowm wasm keptm iskm lnm spm lsm ldm tbm rdm undm gonm lefm akm vnm dym asdm lmam limm ream stsm aprm tzm spom wrom numm nuAm stlm spem wanm foum)) (next : ∀ (S' : St) (σ : List AE), LW S' σ → LAt l N X Post i 1780 σ) : LAt l N X Post i 319 (wL f_ s_ t_ f1_ s1_ t1_ f2_ s2_ t2_ tb_ f3_ s3_ t3_ nu_ ln_ sp_ ls_ g_ ta_ pl_ pf_ ps_ pt_ fi_ hz_ ks_ tz_ ra_ rf_ rt_ la_ lb_ lc_ mp_ mv_ mk_ mo_ my_ mw_ ma_ ml_ ak_ dy_ br_ ad_ dp_ lm_ rs_ len_ nowm wasm keptm iskm lnm spm lsm ldm tbm rdm undm gonm lefm akm vnm dym asdm lmam limm ream stsm aprm tzm spom wrom numm nuAm stlm spem wanm foum) := by
  refine AW.go (bs := bLa3 ++ bLb3) [1780] 80 (z_chk_app tLa3 tLb3) ?_
  refine And.intro (zx_in (by omega) hN) ?_
  refine And.intro (zx_in (by omega) hN) ?_
  refine And.intro (zx_in (by omega) hN) ?_
  refine And.intro (zx_in (by omega) hN) ?_
  refine And.intro (zx_in (by omega) hN) ?_
  show ∃ sp : Sp, _
  refine callLA (fun _ => rfl) (v_request l) (by decide) rfl ⟨S, hA, _, _, _, _, _, rfl, hX _, hX _, hX _, hX _, hX _, kkLA (fun f' s' t' f1' s1' t1' f2' s2' t2' tb' f3' s3' t3' nu' ln' sp' ls' g' ta' pl' pf' ps' pt' fi' hz' ks' tz' ra' rf' rt' la' lb' lc' mp' mv' mk' mo' my' mw' ma' ml' ak' dy' br' ad' dp' lm' rs' len' hA => ?_)⟩
  refine And.intro (zx_in (by omega) hN) ?_
  refine And.intro (zx_in (by omega) hN) ?_
  refine And.intro (zx_in (by omega) hN) ?_
  refine And.intro (zx_in (by omega) hN) ?_
  refine And.intro (zx_in (by omega) hN) ?_
  show ∃ sp : Sp, _
  refine callLM (fun _ => rfl) (v_mrequest l) (by decide) rfl ⟨S, hM, _, _, _, _, _, rfl, hX _, hX _, hX _, hX _, hX _, kkLM (fun nowm' wasm' keptm' iskm' lnm' spm' lsm' ldm' tbm' rdm' undm' gonm' lefm' akm' vnm' dym' asdm' lmam' limm' ream' stsm' aprm' tzm' spom' wrom' numm' nuAm' stlm' spem' wanm' foum' hM => ?_)⟩
  refine And.intro (fun _ => ?_) (fun q => absurd rfl q)
  exact next _ _ ⟨_, _, _, _, _, _, _, _, _, _, _, _, _, _, _, _, _, _, _, _, _, _, _, _, _, _, _, _, _, _, _, _, _, _, _, _, _, _, _, _, _, _, _, _, _, _, _, _, _, _, _, _, _, _, _, _, _, _, _, _, _, _, _, _, _, _, _, _, _, _, _, _, _, _, _, _, _, _, _, _, rfl, hA, hM⟩
set_option maxRecDepth 20000 in
theorem law_4 (l : Launch) {Post : Option Value → List AE → Prop} {S : St} {N i : Nat} {X : Nat → Int} (hX : ∀ k, ir (X k)) (hi : i + 6 ≤ N) (hN : N ≤ 3072) {f_ s_ t_ f1_ s1_ t1_ f2_ s2_ t2_ tb_ f3_ s3_ t3_ nu_ ln_ sp_ ls_ g_ ta_ pl_ : Nat → Int32} {pf_ ps_ pt_ : Nat → Nat → Int32} {fi_ hz_ ks_ tz_ ra_ rf_ rt_ la_ lb_ lc_ mp_ mv_ mk_ mo_ my_ mw_ ma_ ml_ ak_ dy_ br_ ad_ dp_ lm_ rs_ len_ : Int32} {nowm wasm keptm iskm lnm spm lsm ldm tbm rdm : Nat → Int32} {undm gonm lefm akm vnm dym asdm lmam limm ream stsm aprm tzm spom wrom numm nuAm stlm spem wanm foum : Int32} (hA : isA S (wA f_ s_ t_ f1_ s1_ t1_ f2_ s2_ t2_ tb_ f3_ s3_ t3_ nu_ ln_ sp_ ls_ g_ ta_ pl_ pf_ ps_ pt_ fi_ hz_ ks_ tz_ ra_ rf_ rt_ la_ lb_ lc_ mp_ mv_ mk_ mo_ my_ mw_ ma_ ml_ ak_ dy_ br_ ad_ dp_ lm_ rs_ len_)) (hM : isMd S (wMd nowm wasm keptm iskm lnm spm lsm ldm tbm rdm undm gonm lefm akm vnm dym asdm lmam limm ream stsm aprm tzm spom wrom numm nuAm stlm spem wanm foum)) (next : ∀ (S' : St) (σ : List AE), LW S' σ → LAt l N X Post i 1780 σ) : LAt l N X Post i 382 (wL f_ s_ t_ f1_ s1_ t1_ f2_ s2_ t2_ tb_ f3_ s3_ t3_ nu_ ln_ sp_ ls_ g_ ta_ pl_ pf_ ps_ pt_ fi_ hz_ ks_ tz_ ra_ rf_ rt_ la_ lb_ lc_ mp_ mv_ mk_ mo_ my_ mw_ ma_ ml_ ak_ dy_ br_ ad_ dp_ lm_ rs_ len_ nowm wasm keptm iskm lnm spm lsm ldm tbm rdm undm gonm lefm akm vnm dym asdm lmam limm ream stsm aprm tzm spom wrom numm nuAm stlm spem wanm foum) := by
  refine AW.go (bs := bLa4 ++ bLb4) [1780] 80 (z_chk_app tLa4 tLb4) ?_
  refine And.intro (zx_in (by omega) hN) ?_
  refine And.intro (zx_in (by omega) hN) ?_
  show ∃ sp : Sp, _
  refine callLA (fun _ => rfl) (v_recall l) (by decide) rfl ⟨S, hA, _, _, rfl, hX _, hX _, kkLA (fun f' s' t' f1' s1' t1' f2' s2' t2' tb' f3' s3' t3' nu' ln' sp' ls' g' ta' pl' pf' ps' pt' fi' hz' ks' tz' ra' rf' rt' la' lb' lc' mp' mv' mk' mo' my' mw' ma' ml' ak' dy' br' ad' dp' lm' rs' len' hA => ?_)⟩
  refine And.intro (zx_in (by omega) hN) ?_
  refine And.intro (zx_in (by omega) hN) ?_
  show ∃ sp : Sp, _
  refine callLM (fun _ => rfl) (v_mrecall l) (by decide) rfl ⟨S, hM, _, _, rfl, hX _, hX _, kkLM (fun nowm' wasm' keptm' iskm' lnm' spm' lsm' ldm' tbm' rdm' undm' gonm' lefm' akm' vnm' dym' asdm' lmam' limm' ream' stsm' aprm' tzm' spom' wrom' numm' nuAm' stlm' spem' wanm' foum' hM => ?_)⟩
  refine And.intro (fun _ => ?_) (fun q => absurd rfl q)
  exact next _ _ ⟨_, _, _, _, _, _, _, _, _, _, _, _, _, _, _, _, _, _, _, _, _, _, _, _, _, _, _, _, _, _, _, _, _, _, _, _, _, _, _, _, _, _, _, _, _, _, _, _, _, _, _, _, _, _, _, _, _, _, _, _, _, _, _, _, _, _, _, _, _, _, _, _, _, _, _, _, _, _, _, _, rfl, hA, hM⟩
set_option maxRecDepth 20000 in
theorem law_5 (l : Launch) {Post : Option Value → List AE → Prop} {S : St} {N i : Nat} {X : Nat → Int} (hX : ∀ k, ir (X k)) (hi : i + 6 ≤ N) (hN : N ≤ 3072) {f_ s_ t_ f1_ s1_ t1_ f2_ s2_ t2_ tb_ f3_ s3_ t3_ nu_ ln_ sp_ ls_ g_ ta_ pl_ : Nat → Int32} {pf_ ps_ pt_ : Nat → Nat → Int32} {fi_ hz_ ks_ tz_ ra_ rf_ rt_ la_ lb_ lc_ mp_ mv_ mk_ mo_ my_ mw_ ma_ ml_ ak_ dy_ br_ ad_ dp_ lm_ rs_ len_ : Int32} {nowm wasm keptm iskm lnm spm lsm ldm tbm rdm : Nat → Int32} {undm gonm lefm akm vnm dym asdm lmam limm ream stsm aprm tzm spom wrom numm nuAm stlm spem wanm foum : Int32} (hA : isA S (wA f_ s_ t_ f1_ s1_ t1_ f2_ s2_ t2_ tb_ f3_ s3_ t3_ nu_ ln_ sp_ ls_ g_ ta_ pl_ pf_ ps_ pt_ fi_ hz_ ks_ tz_ ra_ rf_ rt_ la_ lb_ lc_ mp_ mv_ mk_ mo_ my_ mw_ ma_ ml_ ak_ dy_ br_ ad_ dp_ lm_ rs_ len_)) (hM : isMd S (wMd nowm wasm keptm iskm lnm spm lsm ldm tbm rdm undm gonm lefm akm vnm dym asdm lmam limm ream stsm aprm tzm spom wrom numm nuAm stlm spem wanm foum)) (next : ∀ (S' : St) (σ : List AE), LW S' σ → LAt l N X Post i 1780 σ) : LAt l N X Post i 415 (wL f_ s_ t_ f1_ s1_ t1_ f2_ s2_ t2_ tb_ f3_ s3_ t3_ nu_ ln_ sp_ ls_ g_ ta_ pl_ pf_ ps_ pt_ fi_ hz_ ks_ tz_ ra_ rf_ rt_ la_ lb_ lc_ mp_ mv_ mk_ mo_ my_ mw_ ma_ ml_ ak_ dy_ br_ ad_ dp_ lm_ rs_ len_ nowm wasm keptm iskm lnm spm lsm ldm tbm rdm undm gonm lefm akm vnm dym asdm lmam limm ream stsm aprm tzm spom wrom numm nuAm stlm spem wanm foum) := by
  refine AW.go (bs := bLa5 ++ bLb5) [1780] 80 (z_chk_app tLa5 tLb5) ?_
  refine And.intro (zx_in (by omega) hN) ?_
  refine And.intro (zx_in (by omega) hN) ?_
  refine And.intro (zx_in (by omega) hN) ?_
  show ∃ sp : Sp, _
  refine callLA (fun _ => rfl) (v_amend l) (by decide) rfl ⟨S, hA, _, _, _, rfl, hX _, hX _, hX _, kkLA (fun f' s' t' f1' s1' t1' f2' s2' t2' tb' f3' s3' t3' nu' ln' sp' ls' g' ta' pl' pf' ps' pt' fi' hz' ks' tz' ra' rf' rt' la' lb' lc' mp' mv' mk' mo' my' mw' ma' ml' ak' dy' br' ad' dp' lm' rs' len' hA => ?_)⟩
  refine And.intro (zx_in (by omega) hN) ?_
  refine And.intro (zx_in (by omega) hN) ?_
  refine And.intro (zx_in (by omega) hN) ?_
  show ∃ sp : Sp, _
  refine callLM (fun _ => rfl) (v_mamend l) (by decide) rfl ⟨S, hM, _, _, _, rfl, hX _, hX _, hX _, kkLM (fun nowm' wasm' keptm' iskm' lnm' spm' lsm' ldm' tbm' rdm' undm' gonm' lefm' akm' vnm' dym' asdm' lmam' limm' ream' stsm' aprm' tzm' spom' wrom' numm' nuAm' stlm' spem' wanm' foum' hM => ?_)⟩
  refine And.intro (fun _ => ?_) (fun q => absurd rfl q)
  exact next _ _ ⟨_, _, _, _, _, _, _, _, _, _, _, _, _, _, _, _, _, _, _, _, _, _, _, _, _, _, _, _, _, _, _, _, _, _, _, _, _, _, _, _, _, _, _, _, _, _, _, _, _, _, _, _, _, _, _, _, _, _, _, _, _, _, _, _, _, _, _, _, _, _, _, _, _, _, _, _, _, _, _, _, rfl, hA, hM⟩
set_option maxRecDepth 20000 in
theorem law_6 (l : Launch) {Post : Option Value → List AE → Prop} {S : St} {N i : Nat} {X : Nat → Int} (hX : ∀ k, ir (X k)) (hi : i + 6 ≤ N) (hN : N ≤ 3072) {f_ s_ t_ f1_ s1_ t1_ f2_ s2_ t2_ tb_ f3_ s3_ t3_ nu_ ln_ sp_ ls_ g_ ta_ pl_ : Nat → Int32} {pf_ ps_ pt_ : Nat → Nat → Int32} {fi_ hz_ ks_ tz_ ra_ rf_ rt_ la_ lb_ lc_ mp_ mv_ mk_ mo_ my_ mw_ ma_ ml_ ak_ dy_ br_ ad_ dp_ lm_ rs_ len_ : Int32} {nowm wasm keptm iskm lnm spm lsm ldm tbm rdm : Nat → Int32} {undm gonm lefm akm vnm dym asdm lmam limm ream stsm aprm tzm spom wrom numm nuAm stlm spem wanm foum : Int32} (hA : isA S (wA f_ s_ t_ f1_ s1_ t1_ f2_ s2_ t2_ tb_ f3_ s3_ t3_ nu_ ln_ sp_ ls_ g_ ta_ pl_ pf_ ps_ pt_ fi_ hz_ ks_ tz_ ra_ rf_ rt_ la_ lb_ lc_ mp_ mv_ mk_ mo_ my_ mw_ ma_ ml_ ak_ dy_ br_ ad_ dp_ lm_ rs_ len_)) (hM : isMd S (wMd nowm wasm keptm iskm lnm spm lsm ldm tbm rdm undm gonm lefm akm vnm dym asdm lmam limm ream stsm aprm tzm spom wrom numm nuAm stlm spem wanm foum)) (next : ∀ (S' : St) (σ : List AE), LW S' σ → LAt l N X Post i 1780 σ) : LAt l N X Post i 458 (wL f_ s_ t_ f1_ s1_ t1_ f2_ s2_ t2_ tb_ f3_ s3_ t3_ nu_ ln_ sp_ ls_ g_ ta_ pl_ pf_ ps_ pt_ fi_ hz_ ks_ tz_ ra_ rf_ rt_ la_ lb_ lc_ mp_ mv_ mk_ mo_ my_ mw_ ma_ ml_ ak_ dy_ br_ ad_ dp_ lm_ rs_ len_ nowm wasm keptm iskm lnm spm lsm ldm tbm rdm undm gonm lefm akm vnm dym asdm lmam limm ream stsm aprm tzm spom wrom numm nuAm stlm spem wanm foum) := by
  refine AW.go (bs := bLa6 ++ bLb6) [1780] 80 (z_chk_app tLa6 tLb6) ?_
  refine And.intro (zx_in (by omega) hN) ?_
  refine And.intro (zx_in (by omega) hN) ?_
  refine And.intro (zx_in (by omega) hN) ?_
  refine And.intro (zx_in (by omega) hN) ?_
  show ∃ sp : Sp, _
  refine callLA (fun _ => rfl) (v_hold l) (by decide) rfl ⟨S, hA, _, _, _, _, rfl, hX _, hX _, hX _, hX _, kkLA (fun f' s' t' f1' s1' t1' f2' s2' t2' tb' f3' s3' t3' nu' ln' sp' ls' g' ta' pl' pf' ps' pt' fi' hz' ks' tz' ra' rf' rt' la' lb' lc' mp' mv' mk' mo' my' mw' ma' ml' ak' dy' br' ad' dp' lm' rs' len' hA => ?_)⟩
  refine And.intro (zx_in (by omega) hN) ?_
  refine And.intro (zx_in (by omega) hN) ?_
  refine And.intro (zx_in (by omega) hN) ?_
  refine And.intro (zx_in (by omega) hN) ?_
  show ∃ sp : Sp, _
  refine callLM (fun _ => rfl) (v_mhold l) (by decide) rfl ⟨S, hM, _, _, _, _, rfl, hX _, hX _, hX _, hX _, kkLM (fun nowm' wasm' keptm' iskm' lnm' spm' lsm' ldm' tbm' rdm' undm' gonm' lefm' akm' vnm' dym' asdm' lmam' limm' ream' stsm' aprm' tzm' spom' wrom' numm' nuAm' stlm' spem' wanm' foum' hM => ?_)⟩
  refine And.intro (fun _ => ?_) (fun q => absurd rfl q)
  exact next _ _ ⟨_, _, _, _, _, _, _, _, _, _, _, _, _, _, _, _, _, _, _, _, _, _, _, _, _, _, _, _, _, _, _, _, _, _, _, _, _, _, _, _, _, _, _, _, _, _, _, _, _, _, _, _, _, _, _, _, _, _, _, _, _, _, _, _, _, _, _, _, _, _, _, _, _, _, _, _, _, _, _, _, rfl, hA, hM⟩
set_option maxRecDepth 20000 in
theorem law_7 (l : Launch) {Post : Option Value → List AE → Prop} {S : St} {N i : Nat} {X : Nat → Int} (hX : ∀ k, ir (X k)) (hi : i + 6 ≤ N) (hN : N ≤ 3072) {f_ s_ t_ f1_ s1_ t1_ f2_ s2_ t2_ tb_ f3_ s3_ t3_ nu_ ln_ sp_ ls_ g_ ta_ pl_ : Nat → Int32} {pf_ ps_ pt_ : Nat → Nat → Int32} {fi_ hz_ ks_ tz_ ra_ rf_ rt_ la_ lb_ lc_ mp_ mv_ mk_ mo_ my_ mw_ ma_ ml_ ak_ dy_ br_ ad_ dp_ lm_ rs_ len_ : Int32} {nowm wasm keptm iskm lnm spm lsm ldm tbm rdm : Nat → Int32} {undm gonm lefm akm vnm dym asdm lmam limm ream stsm aprm tzm spom wrom numm nuAm stlm spem wanm foum : Int32} (hA : isA S (wA f_ s_ t_ f1_ s1_ t1_ f2_ s2_ t2_ tb_ f3_ s3_ t3_ nu_ ln_ sp_ ls_ g_ ta_ pl_ pf_ ps_ pt_ fi_ hz_ ks_ tz_ ra_ rf_ rt_ la_ lb_ lc_ mp_ mv_ mk_ mo_ my_ mw_ ma_ ml_ ak_ dy_ br_ ad_ dp_ lm_ rs_ len_)) (hM : isMd S (wMd nowm wasm keptm iskm lnm spm lsm ldm tbm rdm undm gonm lefm akm vnm dym asdm lmam limm ream stsm aprm tzm spom wrom numm nuAm stlm spem wanm foum)) (next : ∀ (S' : St) (σ : List AE), LW S' σ → LAt l N X Post i 1780 σ) : LAt l N X Post i 511 (wL f_ s_ t_ f1_ s1_ t1_ f2_ s2_ t2_ tb_ f3_ s3_ t3_ nu_ ln_ sp_ ls_ g_ ta_ pl_ pf_ ps_ pt_ fi_ hz_ ks_ tz_ ra_ rf_ rt_ la_ lb_ lc_ mp_ mv_ mk_ mo_ my_ mw_ ma_ ml_ ak_ dy_ br_ ad_ dp_ lm_ rs_ len_ nowm wasm keptm iskm lnm spm lsm ldm tbm rdm undm gonm lefm akm vnm dym asdm lmam limm ream stsm aprm tzm spom wrom numm nuAm stlm spem wanm foum) := by
  refine AW.go (bs := bLa7 ++ bLb7) [1780] 80 (z_chk_app tLa7 tLb7) ?_
  refine And.intro (zx_in (by omega) hN) ?_
  refine And.intro (zx_in (by omega) hN) ?_
  refine And.intro (zx_in (by omega) hN) ?_
  show ∃ sp : Sp, _
  refine callLA (fun _ => rfl) (v_away l) (by decide) rfl ⟨S, hA, _, _, _, rfl, hX _, hX _, hX _, kkLA (fun f' s' t' f1' s1' t1' f2' s2' t2' tb' f3' s3' t3' nu' ln' sp' ls' g' ta' pl' pf' ps' pt' fi' hz' ks' tz' ra' rf' rt' la' lb' lc' mp' mv' mk' mo' my' mw' ma' ml' ak' dy' br' ad' dp' lm' rs' len' hA => ?_)⟩
  refine And.intro (zx_in (by omega) hN) ?_
  refine And.intro (zx_in (by omega) hN) ?_
  refine And.intro (zx_in (by omega) hN) ?_
  show ∃ sp : Sp, _
  refine callLM (fun _ => rfl) (v_maway l) (by decide) rfl ⟨S, hM, _, _, _, rfl, hX _, hX _, hX _, kkLM (fun nowm' wasm' keptm' iskm' lnm' spm' lsm' ldm' tbm' rdm' undm' gonm' lefm' akm' vnm' dym' asdm' lmam' limm' ream' stsm' aprm' tzm' spom' wrom' numm' nuAm' stlm' spem' wanm' foum' hM => ?_)⟩
  refine And.intro (fun _ => ?_) (fun q => absurd rfl q)
  exact next _ _ ⟨_, _, _, _, _, _, _, _, _, _, _, _, _, _, _, _, _, _, _, _, _, _, _, _, _, _, _, _, _, _, _, _, _, _, _, _, _, _, _, _, _, _, _, _, _, _, _, _, _, _, _, _, _, _, _, _, _, _, _, _, _, _, _, _, _, _, _, _, _, _, _, _, _, _, _, _, _, _, _, _, rfl, hA, hM⟩
set_option maxRecDepth 20000 in
theorem law_8 (l : Launch) {Post : Option Value → List AE → Prop} {S : St} {N i : Nat} {X : Nat → Int} (hX : ∀ k, ir (X k)) (hi : i + 6 ≤ N) (hN : N ≤ 3072) {f_ s_ t_ f1_ s1_ t1_ f2_ s2_ t2_ tb_ f3_ s3_ t3_ nu_ ln_ sp_ ls_ g_ ta_ pl_ : Nat → Int32} {pf_ ps_ pt_ : Nat → Nat → Int32} {fi_ hz_ ks_ tz_ ra_ rf_ rt_ la_ lb_ lc_ mp_ mv_ mk_ mo_ my_ mw_ ma_ ml_ ak_ dy_ br_ ad_ dp_ lm_ rs_ len_ : Int32} {nowm wasm keptm iskm lnm spm lsm ldm tbm rdm : Nat → Int32} {undm gonm lefm akm vnm dym asdm lmam limm ream stsm aprm tzm spom wrom numm nuAm stlm spem wanm foum : Int32} (hA : isA S (wA f_ s_ t_ f1_ s1_ t1_ f2_ s2_ t2_ tb_ f3_ s3_ t3_ nu_ ln_ sp_ ls_ g_ ta_ pl_ pf_ ps_ pt_ fi_ hz_ ks_ tz_ ra_ rf_ rt_ la_ lb_ lc_ mp_ mv_ mk_ mo_ my_ mw_ ma_ ml_ ak_ dy_ br_ ad_ dp_ lm_ rs_ len_)) (hM : isMd S (wMd nowm wasm keptm iskm lnm spm lsm ldm tbm rdm undm gonm lefm akm vnm dym asdm lmam limm ream stsm aprm tzm spom wrom numm nuAm stlm spem wanm foum)) (next : ∀ (S' : St) (σ : List AE), LW S' σ → LAt l N X Post i 1780 σ) : LAt l N X Post i 554 (wL f_ s_ t_ f1_ s1_ t1_ f2_ s2_ t2_ tb_ f3_ s3_ t3_ nu_ ln_ sp_ ls_ g_ ta_ pl_ pf_ ps_ pt_ fi_ hz_ ks_ tz_ ra_ rf_ rt_ la_ lb_ lc_ mp_ mv_ mk_ mo_ my_ mw_ ma_ ml_ ak_ dy_ br_ ad_ dp_ lm_ rs_ len_ nowm wasm keptm iskm lnm spm lsm ldm tbm rdm undm gonm lefm akm vnm dym asdm lmam limm ream stsm aprm tzm spom wrom numm nuAm stlm spem wanm foum) := by
  refine AW.go (bs := bLa8 ++ bLb8) [1780] 80 (z_chk_app tLa8 tLb8) ?_
  refine And.intro (zx_in (by omega) hN) ?_
  refine And.intro (zx_in (by omega) hN) ?_
  refine And.intro (zx_in (by omega) hN) ?_
  refine And.intro (zx_in (by omega) hN) ?_
  refine And.intro (zx_in (by omega) hN) ?_
  show ∃ sp : Sp, _
  refine callLA (fun _ => rfl) (v_stand l) (by decide) rfl ⟨S, hA, _, _, _, _, _, rfl, hX _, hX _, hX _, hX _, hX _, kkLA (fun f' s' t' f1' s1' t1' f2' s2' t2' tb' f3' s3' t3' nu' ln' sp' ls' g' ta' pl' pf' ps' pt' fi' hz' ks' tz' ra' rf' rt' la' lb' lc' mp' mv' mk' mo' my' mw' ma' ml' ak' dy' br' ad' dp' lm' rs' len' hA => ?_)⟩
  refine And.intro (zx_in (by omega) hN) ?_
  refine And.intro (zx_in (by omega) hN) ?_
  refine And.intro (zx_in (by omega) hN) ?_
  refine And.intro (zx_in (by omega) hN) ?_
  refine And.intro (zx_in (by omega) hN) ?_
  show ∃ sp : Sp, _
  refine callLM (fun _ => rfl) (v_mstand l) (by decide) rfl ⟨S, hM, _, _, _, _, _, rfl, hX _, hX _, hX _, hX _, hX _, kkLM (fun nowm' wasm' keptm' iskm' lnm' spm' lsm' ldm' tbm' rdm' undm' gonm' lefm' akm' vnm' dym' asdm' lmam' limm' ream' stsm' aprm' tzm' spom' wrom' numm' nuAm' stlm' spem' wanm' foum' hM => ?_)⟩
  refine And.intro (fun _ => ?_) (fun q => absurd rfl q)
  exact next _ _ ⟨_, _, _, _, _, _, _, _, _, _, _, _, _, _, _, _, _, _, _, _, _, _, _, _, _, _, _, _, _, _, _, _, _, _, _, _, _, _, _, _, _, _, _, _, _, _, _, _, _, _, _, _, _, _, _, _, _, _, _, _, _, _, _, _, _, _, _, _, _, _, _, _, _, _, _, _, _, _, _, _, rfl, hA, hM⟩
set_option maxRecDepth 20000 in
theorem law_9 (l : Launch) {Post : Option Value → List AE → Prop} {S : St} {N i : Nat} {X : Nat → Int} (hX : ∀ k, ir (X k)) (hi : i + 6 ≤ N) (hN : N ≤ 3072) {f_ s_ t_ f1_ s1_ t1_ f2_ s2_ t2_ tb_ f3_ s3_ t3_ nu_ ln_ sp_ ls_ g_ ta_ pl_ : Nat → Int32} {pf_ ps_ pt_ : Nat → Nat → Int32} {fi_ hz_ ks_ tz_ ra_ rf_ rt_ la_ lb_ lc_ mp_ mv_ mk_ mo_ my_ mw_ ma_ ml_ ak_ dy_ br_ ad_ dp_ lm_ rs_ len_ : Int32} {nowm wasm keptm iskm lnm spm lsm ldm tbm rdm : Nat → Int32} {undm gonm lefm akm vnm dym asdm lmam limm ream stsm aprm tzm spom wrom numm nuAm stlm spem wanm foum : Int32} (hA : isA S (wA f_ s_ t_ f1_ s1_ t1_ f2_ s2_ t2_ tb_ f3_ s3_ t3_ nu_ ln_ sp_ ls_ g_ ta_ pl_ pf_ ps_ pt_ fi_ hz_ ks_ tz_ ra_ rf_ rt_ la_ lb_ lc_ mp_ mv_ mk_ mo_ my_ mw_ ma_ ml_ ak_ dy_ br_ ad_ dp_ lm_ rs_ len_)) (hM : isMd S (wMd nowm wasm keptm iskm lnm spm lsm ldm tbm rdm undm gonm lefm akm vnm dym asdm lmam limm ream stsm aprm tzm spom wrom numm nuAm stlm spem wanm foum)) (next : ∀ (S' : St) (σ : List AE), LW S' σ → LAt l N X Post i 1780 σ) : LAt l N X Post i 617 (wL f_ s_ t_ f1_ s1_ t1_ f2_ s2_ t2_ tb_ f3_ s3_ t3_ nu_ ln_ sp_ ls_ g_ ta_ pl_ pf_ ps_ pt_ fi_ hz_ ks_ tz_ ra_ rf_ rt_ la_ lb_ lc_ mp_ mv_ mk_ mo_ my_ mw_ ma_ ml_ ak_ dy_ br_ ad_ dp_ lm_ rs_ len_ nowm wasm keptm iskm lnm spm lsm ldm tbm rdm undm gonm lefm akm vnm dym asdm lmam limm ream stsm aprm tzm spom wrom numm nuAm stlm spem wanm foum) := by
  refine AW.go (bs := bLa9 ++ bLb9) [1780] 80 (z_chk_app tLa9 tLb9) ?_
  refine And.intro (zx_in (by omega) hN) ?_
  refine And.intro (zx_in (by omega) hN) ?_
  show ∃ sp : Sp, _
  refine callLA (fun _ => rfl) (v_foe l) (by decide) rfl ⟨S, hA, _, _, rfl, hX _, hX _, kkLA (fun f' s' t' f1' s1' t1' f2' s2' t2' tb' f3' s3' t3' nu' ln' sp' ls' g' ta' pl' pf' ps' pt' fi' hz' ks' tz' ra' rf' rt' la' lb' lc' mp' mv' mk' mo' my' mw' ma' ml' ak' dy' br' ad' dp' lm' rs' len' hA => ?_)⟩
  refine And.intro (zx_in (by omega) hN) ?_
  refine And.intro (zx_in (by omega) hN) ?_
  show ∃ sp : Sp, _
  refine callLM (fun _ => rfl) (v_mfoe l) (by decide) rfl ⟨S, hM, _, _, rfl, hX _, hX _, kkLM (fun nowm' wasm' keptm' iskm' lnm' spm' lsm' ldm' tbm' rdm' undm' gonm' lefm' akm' vnm' dym' asdm' lmam' limm' ream' stsm' aprm' tzm' spom' wrom' numm' nuAm' stlm' spem' wanm' foum' hM => ?_)⟩
  refine And.intro (fun _ => ?_) (fun q => absurd rfl q)
  exact next _ _ ⟨_, _, _, _, _, _, _, _, _, _, _, _, _, _, _, _, _, _, _, _, _, _, _, _, _, _, _, _, _, _, _, _, _, _, _, _, _, _, _, _, _, _, _, _, _, _, _, _, _, _, _, _, _, _, _, _, _, _, _, _, _, _, _, _, _, _, _, _, _, _, _, _, _, _, _, _, _, _, _, _, rfl, hA, hM⟩
set_option maxRecDepth 20000 in
theorem law_10 (l : Launch) {Post : Option Value → List AE → Prop} {S : St} {N i : Nat} {X : Nat → Int} (hX : ∀ k, ir (X k)) (hi : i + 6 ≤ N) (hN : N ≤ 3072) {f_ s_ t_ f1_ s1_ t1_ f2_ s2_ t2_ tb_ f3_ s3_ t3_ nu_ ln_ sp_ ls_ g_ ta_ pl_ : Nat → Int32} {pf_ ps_ pt_ : Nat → Nat → Int32} {fi_ hz_ ks_ tz_ ra_ rf_ rt_ la_ lb_ lc_ mp_ mv_ mk_ mo_ my_ mw_ ma_ ml_ ak_ dy_ br_ ad_ dp_ lm_ rs_ len_ : Int32} {nowm wasm keptm iskm lnm spm lsm ldm tbm rdm : Nat → Int32} {undm gonm lefm akm vnm dym asdm lmam limm ream stsm aprm tzm spom wrom numm nuAm stlm spem wanm foum : Int32} (hA : isA S (wA f_ s_ t_ f1_ s1_ t1_ f2_ s2_ t2_ tb_ f3_ s3_ t3_ nu_ ln_ sp_ ls_ g_ ta_ pl_ pf_ ps_ pt_ fi_ hz_ ks_ tz_ ra_ rf_ rt_ la_ lb_ lc_ mp_ mv_ mk_ mo_ my_ mw_ ma_ ml_ ak_ dy_ br_ ad_ dp_ lm_ rs_ len_)) (hM : isMd S (wMd nowm wasm keptm iskm lnm spm lsm ldm tbm rdm undm gonm lefm akm vnm dym asdm lmam limm ream stsm aprm tzm spom wrom numm nuAm stlm spem wanm foum)) (next : ∀ (S' : St) (σ : List AE), LW S' σ → LAt l N X Post i 1780 σ) : LAt l N X Post i 650 (wL f_ s_ t_ f1_ s1_ t1_ f2_ s2_ t2_ tb_ f3_ s3_ t3_ nu_ ln_ sp_ ls_ g_ ta_ pl_ pf_ ps_ pt_ fi_ hz_ ks_ tz_ ra_ rf_ rt_ la_ lb_ lc_ mp_ mv_ mk_ mo_ my_ mw_ ma_ ml_ ak_ dy_ br_ ad_ dp_ lm_ rs_ len_ nowm wasm keptm iskm lnm spm lsm ldm tbm rdm undm gonm lefm akm vnm dym asdm lmam limm ream stsm aprm tzm spom wrom numm nuAm stlm spem wanm foum) := by
  refine AW.go (bs := bLa10 ++ bLb10) [1780] 80 (z_chk_app tLa10 tLb10) ?_
  refine And.intro (zx_in (by omega) hN) ?_
  refine And.intro (zx_in (by omega) hN) ?_
  show ∃ sp : Sp, _
  refine callLA (fun _ => rfl) (v_drop l) (by decide) rfl ⟨S, hA, _, _, rfl, hX _, hX _, kkLA (fun f' s' t' f1' s1' t1' f2' s2' t2' tb' f3' s3' t3' nu' ln' sp' ls' g' ta' pl' pf' ps' pt' fi' hz' ks' tz' ra' rf' rt' la' lb' lc' mp' mv' mk' mo' my' mw' ma' ml' ak' dy' br' ad' dp' lm' rs' len' hA => ?_)⟩
  refine And.intro (zx_in (by omega) hN) ?_
  refine And.intro (zx_in (by omega) hN) ?_
  show ∃ sp : Sp, _
  refine callLM (fun _ => rfl) (v_mdrop l) (by decide) rfl ⟨S, hM, _, _, rfl, hX _, hX _, kkLM (fun nowm' wasm' keptm' iskm' lnm' spm' lsm' ldm' tbm' rdm' undm' gonm' lefm' akm' vnm' dym' asdm' lmam' limm' ream' stsm' aprm' tzm' spom' wrom' numm' nuAm' stlm' spem' wanm' foum' hM => ?_)⟩
  refine And.intro (fun _ => ?_) (fun q => absurd rfl q)
  exact next _ _ ⟨_, _, _, _, _, _, _, _, _, _, _, _, _, _, _, _, _, _, _, _, _, _, _, _, _, _, _, _, _, _, _, _, _, _, _, _, _, _, _, _, _, _, _, _, _, _, _, _, _, _, _, _, _, _, _, _, _, _, _, _, _, _, _, _, _, _, _, _, _, _, _, _, _, _, _, _, _, _, _, _, rfl, hA, hM⟩
set_option maxRecDepth 20000 in
theorem law_11 (l : Launch) {Post : Option Value → List AE → Prop} {S : St} {N i : Nat} {X : Nat → Int} (hX : ∀ k, ir (X k)) (hi : i + 6 ≤ N) (hN : N ≤ 3072) {f_ s_ t_ f1_ s1_ t1_ f2_ s2_ t2_ tb_ f3_ s3_ t3_ nu_ ln_ sp_ ls_ g_ ta_ pl_ : Nat → Int32} {pf_ ps_ pt_ : Nat → Nat → Int32} {fi_ hz_ ks_ tz_ ra_ rf_ rt_ la_ lb_ lc_ mp_ mv_ mk_ mo_ my_ mw_ ma_ ml_ ak_ dy_ br_ ad_ dp_ lm_ rs_ len_ : Int32} {nowm wasm keptm iskm lnm spm lsm ldm tbm rdm : Nat → Int32} {undm gonm lefm akm vnm dym asdm lmam limm ream stsm aprm tzm spom wrom numm nuAm stlm spem wanm foum : Int32} (hA : isA S (wA f_ s_ t_ f1_ s1_ t1_ f2_ s2_ t2_ tb_ f3_ s3_ t3_ nu_ ln_ sp_ ls_ g_ ta_ pl_ pf_ ps_ pt_ fi_ hz_ ks_ tz_ ra_ rf_ rt_ la_ lb_ lc_ mp_ mv_ mk_ mo_ my_ mw_ ma_ ml_ ak_ dy_ br_ ad_ dp_ lm_ rs_ len_)) (hM : isMd S (wMd nowm wasm keptm iskm lnm spm lsm ldm tbm rdm undm gonm lefm akm vnm dym asdm lmam limm ream stsm aprm tzm spom wrom numm nuAm stlm spem wanm foum)) (next : ∀ (S' : St) (σ : List AE), LW S' σ → LAt l N X Post i 1780 σ) : LAt l N X Post i 683 (wL f_ s_ t_ f1_ s1_ t1_ f2_ s2_ t2_ tb_ f3_ s3_ t3_ nu_ ln_ sp_ ls_ g_ ta_ pl_ pf_ ps_ pt_ fi_ hz_ ks_ tz_ ra_ rf_ rt_ la_ lb_ lc_ mp_ mv_ mk_ mo_ my_ mw_ ma_ ml_ ak_ dy_ br_ ad_ dp_ lm_ rs_ len_ nowm wasm keptm iskm lnm spm lsm ldm tbm rdm undm gonm lefm akm vnm dym asdm lmam limm ream stsm aprm tzm spom wrom numm nuAm stlm spem wanm foum) := by
  refine AW.go (bs := bLa11 ++ bLb11) [1780] 80 (z_chk_app tLa11 tLb11) ?_
  refine And.intro (zx_in (by omega) hN) ?_
  refine And.intro (zx_in (by omega) hN) ?_
  refine And.intro (zx_in (by omega) hN) ?_
  show ∃ sp : Sp, _
  refine callLA (fun _ => rfl) (v_limit l) (by decide) rfl ⟨S, hA, _, _, _, rfl, hX _, hX _, hX _, kkLA (fun f' s' t' f1' s1' t1' f2' s2' t2' tb' f3' s3' t3' nu' ln' sp' ls' g' ta' pl' pf' ps' pt' fi' hz' ks' tz' ra' rf' rt' la' lb' lc' mp' mv' mk' mo' my' mw' ma' ml' ak' dy' br' ad' dp' lm' rs' len' hA => ?_)⟩
  refine And.intro (zx_in (by omega) hN) ?_
  refine And.intro (zx_in (by omega) hN) ?_
  refine And.intro (zx_in (by omega) hN) ?_
  show ∃ sp : Sp, _
  refine callLM (fun _ => rfl) (v_mlimit l) (by decide) rfl ⟨S, hM, _, _, _, rfl, hX _, hX _, hX _, kkLM (fun nowm' wasm' keptm' iskm' lnm' spm' lsm' ldm' tbm' rdm' undm' gonm' lefm' akm' vnm' dym' asdm' lmam' limm' ream' stsm' aprm' tzm' spom' wrom' numm' nuAm' stlm' spem' wanm' foum' hM => ?_)⟩
  refine And.intro (fun _ => ?_) (fun q => absurd rfl q)
  exact next _ _ ⟨_, _, _, _, _, _, _, _, _, _, _, _, _, _, _, _, _, _, _, _, _, _, _, _, _, _, _, _, _, _, _, _, _, _, _, _, _, _, _, _, _, _, _, _, _, _, _, _, _, _, _, _, _, _, _, _, _, _, _, _, _, _, _, _, _, _, _, _, _, _, _, _, _, _, _, _, _, _, _, _, rfl, hA, hM⟩
set_option maxRecDepth 20000 in
theorem law_12 (l : Launch) {Post : Option Value → List AE → Prop} {S : St} {N i : Nat} {X : Nat → Int} (hX : ∀ k, ir (X k)) (hi : i + 6 ≤ N) (hN : N ≤ 3072) {f_ s_ t_ f1_ s1_ t1_ f2_ s2_ t2_ tb_ f3_ s3_ t3_ nu_ ln_ sp_ ls_ g_ ta_ pl_ : Nat → Int32} {pf_ ps_ pt_ : Nat → Nat → Int32} {fi_ hz_ ks_ tz_ ra_ rf_ rt_ la_ lb_ lc_ mp_ mv_ mk_ mo_ my_ mw_ ma_ ml_ ak_ dy_ br_ ad_ dp_ lm_ rs_ len_ : Int32} {nowm wasm keptm iskm lnm spm lsm ldm tbm rdm : Nat → Int32} {undm gonm lefm akm vnm dym asdm lmam limm ream stsm aprm tzm spom wrom numm nuAm stlm spem wanm foum : Int32} (hA : isA S (wA f_ s_ t_ f1_ s1_ t1_ f2_ s2_ t2_ tb_ f3_ s3_ t3_ nu_ ln_ sp_ ls_ g_ ta_ pl_ pf_ ps_ pt_ fi_ hz_ ks_ tz_ ra_ rf_ rt_ la_ lb_ lc_ mp_ mv_ mk_ mo_ my_ mw_ ma_ ml_ ak_ dy_ br_ ad_ dp_ lm_ rs_ len_)) (hM : isMd S (wMd nowm wasm keptm iskm lnm spm lsm ldm tbm rdm undm gonm lefm akm vnm dym asdm lmam limm ream stsm aprm tzm spom wrom numm nuAm stlm spem wanm foum)) (next : ∀ (S' : St) (σ : List AE), LW S' σ → LAt l N X Post i 1780 σ) : LAt l N X Post i 726 (wL f_ s_ t_ f1_ s1_ t1_ f2_ s2_ t2_ tb_ f3_ s3_ t3_ nu_ ln_ sp_ ls_ g_ ta_ pl_ pf_ ps_ pt_ fi_ hz_ ks_ tz_ ra_ rf_ rt_ la_ lb_ lc_ mp_ mv_ mk_ mo_ my_ mw_ ma_ ml_ ak_ dy_ br_ ad_ dp_ lm_ rs_ len_ nowm wasm keptm iskm lnm spm lsm ldm tbm rdm undm gonm lefm akm vnm dym asdm lmam limm ream stsm aprm tzm spom wrom numm nuAm stlm spem wanm foum) := by
  refine AW.go (bs := bLa12 ++ bLb12) [1780] 80 (z_chk_app tLa12 tLb12) ?_
  refine And.intro (zx_in (by omega) hN) ?_
  refine And.intro (zx_in (by omega) hN) ?_
  show ∃ sp : Sp, _
  refine callLA (fun _ => rfl) (v_set l) (by decide) rfl ⟨S, hA, _, _, rfl, hX _, hX _, kkLA (fun f' s' t' f1' s1' t1' f2' s2' t2' tb' f3' s3' t3' nu' ln' sp' ls' g' ta' pl' pf' ps' pt' fi' hz' ks' tz' ra' rf' rt' la' lb' lc' mp' mv' mk' mo' my' mw' ma' ml' ak' dy' br' ad' dp' lm' rs' len' hA => ?_)⟩
  refine And.intro (zx_in (by omega) hN) ?_
  refine And.intro (zx_in (by omega) hN) ?_
  show ∃ sp : Sp, _
  refine callLM (fun _ => rfl) (v_mset l) (by decide) rfl ⟨S, hM, _, _, rfl, hX _, hX _, kkLM (fun nowm' wasm' keptm' iskm' lnm' spm' lsm' ldm' tbm' rdm' undm' gonm' lefm' akm' vnm' dym' asdm' lmam' limm' ream' stsm' aprm' tzm' spom' wrom' numm' nuAm' stlm' spem' wanm' foum' hM => ?_)⟩
  refine And.intro (fun _ => ?_) (fun q => absurd rfl q)
  exact next _ _ ⟨_, _, _, _, _, _, _, _, _, _, _, _, _, _, _, _, _, _, _, _, _, _, _, _, _, _, _, _, _, _, _, _, _, _, _, _, _, _, _, _, _, _, _, _, _, _, _, _, _, _, _, _, _, _, _, _, _, _, _, _, _, _, _, _, _, _, _, _, _, _, _, _, _, _, _, _, _, _, _, _, rfl, hA, hM⟩
set_option maxRecDepth 20000 in
theorem law_13 (l : Launch) {Post : Option Value → List AE → Prop} {S : St} {N i : Nat} {X : Nat → Int} (hX : ∀ k, ir (X k)) (hi : i + 6 ≤ N) (hN : N ≤ 3072) {f_ s_ t_ f1_ s1_ t1_ f2_ s2_ t2_ tb_ f3_ s3_ t3_ nu_ ln_ sp_ ls_ g_ ta_ pl_ : Nat → Int32} {pf_ ps_ pt_ : Nat → Nat → Int32} {fi_ hz_ ks_ tz_ ra_ rf_ rt_ la_ lb_ lc_ mp_ mv_ mk_ mo_ my_ mw_ ma_ ml_ ak_ dy_ br_ ad_ dp_ lm_ rs_ len_ : Int32} {nowm wasm keptm iskm lnm spm lsm ldm tbm rdm : Nat → Int32} {undm gonm lefm akm vnm dym asdm lmam limm ream stsm aprm tzm spom wrom numm nuAm stlm spem wanm foum : Int32} (hA : isA S (wA f_ s_ t_ f1_ s1_ t1_ f2_ s2_ t2_ tb_ f3_ s3_ t3_ nu_ ln_ sp_ ls_ g_ ta_ pl_ pf_ ps_ pt_ fi_ hz_ ks_ tz_ ra_ rf_ rt_ la_ lb_ lc_ mp_ mv_ mk_ mo_ my_ mw_ ma_ ml_ ak_ dy_ br_ ad_ dp_ lm_ rs_ len_)) (hM : isMd S (wMd nowm wasm keptm iskm lnm spm lsm ldm tbm rdm undm gonm lefm akm vnm dym asdm lmam limm ream stsm aprm tzm spom wrom numm nuAm stlm spem wanm foum)) (next : ∀ (S' : St) (σ : List AE), LW S' σ → LAt l N X Post i 1780 σ) : LAt l N X Post i 759 (wL f_ s_ t_ f1_ s1_ t1_ f2_ s2_ t2_ tb_ f3_ s3_ t3_ nu_ ln_ sp_ ls_ g_ ta_ pl_ pf_ ps_ pt_ fi_ hz_ ks_ tz_ ra_ rf_ rt_ la_ lb_ lc_ mp_ mv_ mk_ mo_ my_ mw_ ma_ ml_ ak_ dy_ br_ ad_ dp_ lm_ rs_ len_ nowm wasm keptm iskm lnm spm lsm ldm tbm rdm undm gonm lefm akm vnm dym asdm lmam limm ream stsm aprm tzm spom wrom numm nuAm stlm spem wanm foum) := by
  refine AW.go (bs := bLa13 ++ bLb13) [1780] 80 (z_chk_app tLa13 tLb13) ?_
  show ∃ sp : Sp, _
  refine callLA (fun _ => rfl) (v_undo l) (by decide) rfl ⟨S, hA, rfl, kkLA (fun f' s' t' f1' s1' t1' f2' s2' t2' tb' f3' s3' t3' nu' ln' sp' ls' g' ta' pl' pf' ps' pt' fi' hz' ks' tz' ra' rf' rt' la' lb' lc' mp' mv' mk' mo' my' mw' ma' ml' ak' dy' br' ad' dp' lm' rs' len' hA => ?_)⟩
  show ∃ sp : Sp, _
  refine callLM (fun _ => rfl) (v_mundo l) (by decide) rfl ⟨S, hM, rfl, kkLM (fun nowm' wasm' keptm' iskm' lnm' spm' lsm' ldm' tbm' rdm' undm' gonm' lefm' akm' vnm' dym' asdm' lmam' limm' ream' stsm' aprm' tzm' spom' wrom' numm' nuAm' stlm' spem' wanm' foum' hM => ?_)⟩
  refine And.intro (fun _ => ?_) (fun q => absurd rfl q)
  exact next _ _ ⟨_, _, _, _, _, _, _, _, _, _, _, _, _, _, _, _, _, _, _, _, _, _, _, _, _, _, _, _, _, _, _, _, _, _, _, _, _, _, _, _, _, _, _, _, _, _, _, _, _, _, _, _, _, _, _, _, _, _, _, _, _, _, _, _, _, _, _, _, _, _, _, _, _, _, _, _, _, _, _, _, rfl, hA, hM⟩
set_option maxRecDepth 20000 in
theorem law_14 (l : Launch) {Post : Option Value → List AE → Prop} {S : St} {N i : Nat} {X : Nat → Int} (hX : ∀ k, ir (X k)) (hi : i + 6 ≤ N) (hN : N ≤ 3072) {f_ s_ t_ f1_ s1_ t1_ f2_ s2_ t2_ tb_ f3_ s3_ t3_ nu_ ln_ sp_ ls_ g_ ta_ pl_ : Nat → Int32} {pf_ ps_ pt_ : Nat → Nat → Int32} {fi_ hz_ ks_ tz_ ra_ rf_ rt_ la_ lb_ lc_ mp_ mv_ mk_ mo_ my_ mw_ ma_ ml_ ak_ dy_ br_ ad_ dp_ lm_ rs_ len_ : Int32} {nowm wasm keptm iskm lnm spm lsm ldm tbm rdm : Nat → Int32} {undm gonm lefm akm vnm dym asdm lmam limm ream stsm aprm tzm spom wrom numm nuAm stlm spem wanm foum : Int32} (hA : isA S (wA f_ s_ t_ f1_ s1_ t1_ f2_ s2_ t2_ tb_ f3_ s3_ t3_ nu_ ln_ sp_ ls_ g_ ta_ pl_ pf_ ps_ pt_ fi_ hz_ ks_ tz_ ra_ rf_ rt_ la_ lb_ lc_ mp_ mv_ mk_ mo_ my_ mw_ ma_ ml_ ak_ dy_ br_ ad_ dp_ lm_ rs_ len_)) (hM : isMd S (wMd nowm wasm keptm iskm lnm spm lsm ldm tbm rdm undm gonm lefm akm vnm dym asdm lmam limm ream stsm aprm tzm spom wrom numm nuAm stlm spem wanm foum)) (next : ∀ (S' : St) (σ : List AE), LW S' σ → LAt l N X Post i 1780 σ) : LAt l N X Post i 772 (wL f_ s_ t_ f1_ s1_ t1_ f2_ s2_ t2_ tb_ f3_ s3_ t3_ nu_ ln_ sp_ ls_ g_ ta_ pl_ pf_ ps_ pt_ fi_ hz_ ks_ tz_ ra_ rf_ rt_ la_ lb_ lc_ mp_ mv_ mk_ mo_ my_ mw_ ma_ ml_ ak_ dy_ br_ ad_ dp_ lm_ rs_ len_ nowm wasm keptm iskm lnm spm lsm ldm tbm rdm undm gonm lefm akm vnm dym asdm lmam limm ream stsm aprm tzm spom wrom numm nuAm stlm spem wanm foum) := by
  refine AW.go (bs := bLa14 ++ bLb14) [1780] 80 (z_chk_app tLa14 tLb14) ?_
  refine And.intro (zx_in (by omega) hN) ?_
  show ∃ sp : Sp, _
  refine callLA (fun _ => rfl) (v_keep l) (by decide) rfl ⟨S, hA, _, rfl, hX _, kkLA (fun f' s' t' f1' s1' t1' f2' s2' t2' tb' f3' s3' t3' nu' ln' sp' ls' g' ta' pl' pf' ps' pt' fi' hz' ks' tz' ra' rf' rt' la' lb' lc' mp' mv' mk' mo' my' mw' ma' ml' ak' dy' br' ad' dp' lm' rs' len' hA => ?_)⟩
  refine And.intro (zx_in (by omega) hN) ?_
  show ∃ sp : Sp, _
  refine callLM (fun _ => rfl) (v_mkeep l) (by decide) rfl ⟨S, hM, _, rfl, hX _, kkLM (fun nowm' wasm' keptm' iskm' lnm' spm' lsm' ldm' tbm' rdm' undm' gonm' lefm' akm' vnm' dym' asdm' lmam' limm' ream' stsm' aprm' tzm' spom' wrom' numm' nuAm' stlm' spem' wanm' foum' hM => ?_)⟩
  refine And.intro (fun _ => ?_) (fun q => absurd rfl q)
  exact next _ _ ⟨_, _, _, _, _, _, _, _, _, _, _, _, _, _, _, _, _, _, _, _, _, _, _, _, _, _, _, _, _, _, _, _, _, _, _, _, _, _, _, _, _, _, _, _, _, _, _, _, _, _, _, _, _, _, _, _, _, _, _, _, _, _, _, _, _, _, _, _, _, _, _, _, _, _, _, _, _, _, _, _, rfl, hA, hM⟩
set_option maxRecDepth 20000 in
theorem law_15 (l : Launch) {Post : Option Value → List AE → Prop} {S : St} {N i : Nat} {X : Nat → Int} (hX : ∀ k, ir (X k)) (hi : i + 6 ≤ N) (hN : N ≤ 3072) {f_ s_ t_ f1_ s1_ t1_ f2_ s2_ t2_ tb_ f3_ s3_ t3_ nu_ ln_ sp_ ls_ g_ ta_ pl_ : Nat → Int32} {pf_ ps_ pt_ : Nat → Nat → Int32} {fi_ hz_ ks_ tz_ ra_ rf_ rt_ la_ lb_ lc_ mp_ mv_ mk_ mo_ my_ mw_ ma_ ml_ ak_ dy_ br_ ad_ dp_ lm_ rs_ len_ : Int32} {nowm wasm keptm iskm lnm spm lsm ldm tbm rdm : Nat → Int32} {undm gonm lefm akm vnm dym asdm lmam limm ream stsm aprm tzm spom wrom numm nuAm stlm spem wanm foum : Int32} (hA : isA S (wA f_ s_ t_ f1_ s1_ t1_ f2_ s2_ t2_ tb_ f3_ s3_ t3_ nu_ ln_ sp_ ls_ g_ ta_ pl_ pf_ ps_ pt_ fi_ hz_ ks_ tz_ ra_ rf_ rt_ la_ lb_ lc_ mp_ mv_ mk_ mo_ my_ mw_ ma_ ml_ ak_ dy_ br_ ad_ dp_ lm_ rs_ len_)) (hM : isMd S (wMd nowm wasm keptm iskm lnm spm lsm ldm tbm rdm undm gonm lefm akm vnm dym asdm lmam limm ream stsm aprm tzm spom wrom numm nuAm stlm spem wanm foum)) (next : ∀ (S' : St) (σ : List AE), LW S' σ → LAt l N X Post i 1780 σ) : LAt l N X Post i 795 (wL f_ s_ t_ f1_ s1_ t1_ f2_ s2_ t2_ tb_ f3_ s3_ t3_ nu_ ln_ sp_ ls_ g_ ta_ pl_ pf_ ps_ pt_ fi_ hz_ ks_ tz_ ra_ rf_ rt_ la_ lb_ lc_ mp_ mv_ mk_ mo_ my_ mw_ ma_ ml_ ak_ dy_ br_ ad_ dp_ lm_ rs_ len_ nowm wasm keptm iskm lnm spm lsm ldm tbm rdm undm gonm lefm akm vnm dym asdm lmam limm ream stsm aprm tzm spom wrom numm nuAm stlm spem wanm foum) := by
  refine AW.go (bs := bLa15 ++ bLb15) [1780] 80 (z_chk_app tLa15 tLb15) ?_
  refine And.intro (zx_in (by omega) hN) ?_
  show ∃ sp : Sp, _
  refine callLA (fun _ => rfl) (v_back l) (by decide) rfl ⟨S, hA, _, rfl, hX _, kkLA (fun f' s' t' f1' s1' t1' f2' s2' t2' tb' f3' s3' t3' nu' ln' sp' ls' g' ta' pl' pf' ps' pt' fi' hz' ks' tz' ra' rf' rt' la' lb' lc' mp' mv' mk' mo' my' mw' ma' ml' ak' dy' br' ad' dp' lm' rs' len' hA => ?_)⟩
  refine And.intro (zx_in (by omega) hN) ?_
  show ∃ sp : Sp, _
  refine callLM (fun _ => rfl) (v_mback l) (by decide) rfl ⟨S, hM, _, rfl, hX _, kkLM (fun nowm' wasm' keptm' iskm' lnm' spm' lsm' ldm' tbm' rdm' undm' gonm' lefm' akm' vnm' dym' asdm' lmam' limm' ream' stsm' aprm' tzm' spom' wrom' numm' nuAm' stlm' spem' wanm' foum' hM => ?_)⟩
  refine And.intro (fun _ => ?_) (fun q => absurd rfl q)
  exact next _ _ ⟨_, _, _, _, _, _, _, _, _, _, _, _, _, _, _, _, _, _, _, _, _, _, _, _, _, _, _, _, _, _, _, _, _, _, _, _, _, _, _, _, _, _, _, _, _, _, _, _, _, _, _, _, _, _, _, _, _, _, _, _, _, _, _, _, _, _, _, _, _, _, _, _, _, _, _, _, _, _, _, _, rfl, hA, hM⟩
set_option maxRecDepth 20000 in
theorem law_16 (l : Launch) {Post : Option Value → List AE → Prop} {S : St} {N i : Nat} {X : Nat → Int} (hX : ∀ k, ir (X k)) (hi : i + 6 ≤ N) (hN : N ≤ 3072) {f_ s_ t_ f1_ s1_ t1_ f2_ s2_ t2_ tb_ f3_ s3_ t3_ nu_ ln_ sp_ ls_ g_ ta_ pl_ : Nat → Int32} {pf_ ps_ pt_ : Nat → Nat → Int32} {fi_ hz_ ks_ tz_ ra_ rf_ rt_ la_ lb_ lc_ mp_ mv_ mk_ mo_ my_ mw_ ma_ ml_ ak_ dy_ br_ ad_ dp_ lm_ rs_ len_ : Int32} {nowm wasm keptm iskm lnm spm lsm ldm tbm rdm : Nat → Int32} {undm gonm lefm akm vnm dym asdm lmam limm ream stsm aprm tzm spom wrom numm nuAm stlm spem wanm foum : Int32} (hA : isA S (wA f_ s_ t_ f1_ s1_ t1_ f2_ s2_ t2_ tb_ f3_ s3_ t3_ nu_ ln_ sp_ ls_ g_ ta_ pl_ pf_ ps_ pt_ fi_ hz_ ks_ tz_ ra_ rf_ rt_ la_ lb_ lc_ mp_ mv_ mk_ mo_ my_ mw_ ma_ ml_ ak_ dy_ br_ ad_ dp_ lm_ rs_ len_)) (hM : isMd S (wMd nowm wasm keptm iskm lnm spm lsm ldm tbm rdm undm gonm lefm akm vnm dym asdm lmam limm ream stsm aprm tzm spom wrom numm nuAm stlm spem wanm foum)) (next : ∀ (S' : St) (σ : List AE), LW S' σ → LAt l N X Post i 1780 σ) : LAt l N X Post i 818 (wL f_ s_ t_ f1_ s1_ t1_ f2_ s2_ t2_ tb_ f3_ s3_ t3_ nu_ ln_ sp_ ls_ g_ ta_ pl_ pf_ ps_ pt_ fi_ hz_ ks_ tz_ ra_ rf_ rt_ la_ lb_ lc_ mp_ mv_ mk_ mo_ my_ mw_ ma_ ml_ ak_ dy_ br_ ad_ dp_ lm_ rs_ len_ nowm wasm keptm iskm lnm spm lsm ldm tbm rdm undm gonm lefm akm vnm dym asdm lmam limm ream stsm aprm tzm spom wrom numm nuAm stlm spem wanm foum) := by
  refine AW.go (bs := bLa16 ++ bLb16) [1780] 80 (z_chk_app tLa16 tLb16) ?_
  refine And.intro (zx_in (by omega) hN) ?_
  refine And.intro (zx_in (by omega) hN) ?_
  show ∃ sp : Sp, _
  refine callLA (fun _ => rfl) (v_post l) (by decide) rfl ⟨S, hA, _, _, rfl, hX _, hX _, kkLA (fun f' s' t' f1' s1' t1' f2' s2' t2' tb' f3' s3' t3' nu' ln' sp' ls' g' ta' pl' pf' ps' pt' fi' hz' ks' tz' ra' rf' rt' la' lb' lc' mp' mv' mk' mo' my' mw' ma' ml' ak' dy' br' ad' dp' lm' rs' len' hA => ?_)⟩
  refine And.intro (zx_in (by omega) hN) ?_
  refine And.intro (zx_in (by omega) hN) ?_
  show ∃ sp : Sp, _
  refine callLM (fun _ => rfl) (v_mpost l) (by decide) rfl ⟨S, hM, _, _, rfl, hX _, hX _, kkLM (fun nowm' wasm' keptm' iskm' lnm' spm' lsm' ldm' tbm' rdm' undm' gonm' lefm' akm' vnm' dym' asdm' lmam' limm' ream' stsm' aprm' tzm' spom' wrom' numm' nuAm' stlm' spem' wanm' foum' hM => ?_)⟩
  refine And.intro (fun _ => ?_) (fun q => absurd rfl q)
  exact next _ _ ⟨_, _, _, _, _, _, _, _, _, _, _, _, _, _, _, _, _, _, _, _, _, _, _, _, _, _, _, _, _, _, _, _, _, _, _, _, _, _, _, _, _, _, _, _, _, _, _, _, _, _, _, _, _, _, _, _, _, _, _, _, _, _, _, _, _, _, _, _, _, _, _, _, _, _, _, _, _, _, _, _, rfl, hA, hM⟩
set_option maxRecDepth 20000 in
theorem law_17 (l : Launch) {Post : Option Value → List AE → Prop} {S : St} {N i : Nat} {X : Nat → Int} (hX : ∀ k, ir (X k)) (hi : i + 6 ≤ N) (hN : N ≤ 3072) {f_ s_ t_ f1_ s1_ t1_ f2_ s2_ t2_ tb_ f3_ s3_ t3_ nu_ ln_ sp_ ls_ g_ ta_ pl_ : Nat → Int32} {pf_ ps_ pt_ : Nat → Nat → Int32} {fi_ hz_ ks_ tz_ ra_ rf_ rt_ la_ lb_ lc_ mp_ mv_ mk_ mo_ my_ mw_ ma_ ml_ ak_ dy_ br_ ad_ dp_ lm_ rs_ len_ : Int32} {nowm wasm keptm iskm lnm spm lsm ldm tbm rdm : Nat → Int32} {undm gonm lefm akm vnm dym asdm lmam limm ream stsm aprm tzm spom wrom numm nuAm stlm spem wanm foum : Int32} (hA : isA S (wA f_ s_ t_ f1_ s1_ t1_ f2_ s2_ t2_ tb_ f3_ s3_ t3_ nu_ ln_ sp_ ls_ g_ ta_ pl_ pf_ ps_ pt_ fi_ hz_ ks_ tz_ ra_ rf_ rt_ la_ lb_ lc_ mp_ mv_ mk_ mo_ my_ mw_ ma_ ml_ ak_ dy_ br_ ad_ dp_ lm_ rs_ len_)) (hM : isMd S (wMd nowm wasm keptm iskm lnm spm lsm ldm tbm rdm undm gonm lefm akm vnm dym asdm lmam limm ream stsm aprm tzm spom wrom numm nuAm stlm spem wanm foum)) (next : ∀ (S' : St) (σ : List AE), LW S' σ → LAt l N X Post i 1780 σ) : LAt l N X Post i 851 (wL f_ s_ t_ f1_ s1_ t1_ f2_ s2_ t2_ tb_ f3_ s3_ t3_ nu_ ln_ sp_ ls_ g_ ta_ pl_ pf_ ps_ pt_ fi_ hz_ ks_ tz_ ra_ rf_ rt_ la_ lb_ lc_ mp_ mv_ mk_ mo_ my_ mw_ ma_ ml_ ak_ dy_ br_ ad_ dp_ lm_ rs_ len_ nowm wasm keptm iskm lnm spm lsm ldm tbm rdm undm gonm lefm akm vnm dym asdm lmam limm ream stsm aprm tzm spom wrom numm nuAm stlm spem wanm foum) := by
  refine AW.go (bs := bLa17 ++ bLb17) [1780] 80 (z_chk_app tLa17 tLb17) ?_
  refine And.intro (zx_in (by omega) hN) ?_
  refine And.intro (zx_in (by omega) hN) ?_
  refine And.intro (zx_in (by omega) hN) ?_
  show ∃ sp : Sp, _
  refine callLA (fun _ => rfl) (v_entry l) (by decide) rfl ⟨S, hA, _, _, _, rfl, hX _, hX _, hX _, kkLA (fun f' s' t' f1' s1' t1' f2' s2' t2' tb' f3' s3' t3' nu' ln' sp' ls' g' ta' pl' pf' ps' pt' fi' hz' ks' tz' ra' rf' rt' la' lb' lc' mp' mv' mk' mo' my' mw' ma' ml' ak' dy' br' ad' dp' lm' rs' len' hA => ?_)⟩
  refine And.intro (zx_in (by omega) hN) ?_
  refine And.intro (zx_in (by omega) hN) ?_
  refine And.intro (zx_in (by omega) hN) ?_
  show ∃ sp : Sp, _
  refine callLM (fun _ => rfl) (v_mentry l) (by decide) rfl ⟨S, hM, _, _, _, rfl, hX _, hX _, hX _, kkLM (fun nowm' wasm' keptm' iskm' lnm' spm' lsm' ldm' tbm' rdm' undm' gonm' lefm' akm' vnm' dym' asdm' lmam' limm' ream' stsm' aprm' tzm' spom' wrom' numm' nuAm' stlm' spem' wanm' foum' hM => ?_)⟩
  refine And.intro (fun _ => ?_) (fun q => absurd rfl q)
  exact next _ _ ⟨_, _, _, _, _, _, _, _, _, _, _, _, _, _, _, _, _, _, _, _, _, _, _, _, _, _, _, _, _, _, _, _, _, _, _, _, _, _, _, _, _, _, _, _, _, _, _, _, _, _, _, _, _, _, _, _, _, _, _, _, _, _, _, _, _, _, _, _, _, _, _, _, _, _, _, _, _, _, _, _, rfl, hA, hM⟩
set_option maxRecDepth 20000 in
theorem law_18 (l : Launch) {Post : Option Value → List AE → Prop} {S : St} {N i : Nat} {X : Nat → Int} (hX : ∀ k, ir (X k)) (hi : i + 6 ≤ N) (hN : N ≤ 3072) {f_ s_ t_ f1_ s1_ t1_ f2_ s2_ t2_ tb_ f3_ s3_ t3_ nu_ ln_ sp_ ls_ g_ ta_ pl_ : Nat → Int32} {pf_ ps_ pt_ : Nat → Nat → Int32} {fi_ hz_ ks_ tz_ ra_ rf_ rt_ la_ lb_ lc_ mp_ mv_ mk_ mo_ my_ mw_ ma_ ml_ ak_ dy_ br_ ad_ dp_ lm_ rs_ len_ : Int32} {nowm wasm keptm iskm lnm spm lsm ldm tbm rdm : Nat → Int32} {undm gonm lefm akm vnm dym asdm lmam limm ream stsm aprm tzm spom wrom numm nuAm stlm spem wanm foum : Int32} (hA : isA S (wA f_ s_ t_ f1_ s1_ t1_ f2_ s2_ t2_ tb_ f3_ s3_ t3_ nu_ ln_ sp_ ls_ g_ ta_ pl_ pf_ ps_ pt_ fi_ hz_ ks_ tz_ ra_ rf_ rt_ la_ lb_ lc_ mp_ mv_ mk_ mo_ my_ mw_ ma_ ml_ ak_ dy_ br_ ad_ dp_ lm_ rs_ len_)) (hM : isMd S (wMd nowm wasm keptm iskm lnm spm lsm ldm tbm rdm undm gonm lefm akm vnm dym asdm lmam limm ream stsm aprm tzm spom wrom numm nuAm stlm spem wanm foum)) (next : ∀ (S' : St) (σ : List AE), LW S' σ → LAt l N X Post i 1780 σ) : LAt l N X Post i 894 (wL f_ s_ t_ f1_ s1_ t1_ f2_ s2_ t2_ tb_ f3_ s3_ t3_ nu_ ln_ sp_ ls_ g_ ta_ pl_ pf_ ps_ pt_ fi_ hz_ ks_ tz_ ra_ rf_ rt_ la_ lb_ lc_ mp_ mv_ mk_ mo_ my_ mw_ ma_ ml_ ak_ dy_ br_ ad_ dp_ lm_ rs_ len_ nowm wasm keptm iskm lnm spm lsm ldm tbm rdm undm gonm lefm akm vnm dym asdm lmam limm ream stsm aprm tzm spom wrom numm nuAm stlm spem wanm foum) := by
  refine AW.go (bs := bLa18 ++ bLb18) [1780] 80 (z_chk_app tLa18 tLb18) ?_
  refine And.intro (zx_in (by omega) hN) ?_
  refine And.intro (zx_in (by omega) hN) ?_
  show ∃ sp : Sp, _
  refine callLA (fun _ => rfl) (v_asked l) (by decide) rfl ⟨S, hA, _, _, rfl, hX _, hX _, kkLA (fun f' s' t' f1' s1' t1' f2' s2' t2' tb' f3' s3' t3' nu' ln' sp' ls' g' ta' pl' pf' ps' pt' fi' hz' ks' tz' ra' rf' rt' la' lb' lc' mp' mv' mk' mo' my' mw' ma' ml' ak' dy' br' ad' dp' lm' rs' len' hA => ?_)⟩
  refine And.intro (zx_in (by omega) hN) ?_
  refine And.intro (zx_in (by omega) hN) ?_
  show ∃ sp : Sp, _
  refine callLM (fun _ => rfl) (v_masked l) (by decide) rfl ⟨S, hM, _, _, rfl, hX _, hX _, kkLM (fun nowm' wasm' keptm' iskm' lnm' spm' lsm' ldm' tbm' rdm' undm' gonm' lefm' akm' vnm' dym' asdm' lmam' limm' ream' stsm' aprm' tzm' spom' wrom' numm' nuAm' stlm' spem' wanm' foum' hM => ?_)⟩
  refine And.intro (fun _ => ?_) (fun q => absurd rfl q)
  exact next _ _ ⟨_, _, _, _, _, _, _, _, _, _, _, _, _, _, _, _, _, _, _, _, _, _, _, _, _, _, _, _, _, _, _, _, _, _, _, _, _, _, _, _, _, _, _, _, _, _, _, _, _, _, _, _, _, _, _, _, _, _, _, _, _, _, _, _, _, _, _, _, _, _, _, _, _, _, _, _, _, _, _, _, rfl, hA, hM⟩
set_option maxRecDepth 20000 in
theorem law_19 (l : Launch) {Post : Option Value → List AE → Prop} {S : St} {N i : Nat} {X : Nat → Int} (hX : ∀ k, ir (X k)) (hi : i + 6 ≤ N) (hN : N ≤ 3072) {f_ s_ t_ f1_ s1_ t1_ f2_ s2_ t2_ tb_ f3_ s3_ t3_ nu_ ln_ sp_ ls_ g_ ta_ pl_ : Nat → Int32} {pf_ ps_ pt_ : Nat → Nat → Int32} {fi_ hz_ ks_ tz_ ra_ rf_ rt_ la_ lb_ lc_ mp_ mv_ mk_ mo_ my_ mw_ ma_ ml_ ak_ dy_ br_ ad_ dp_ lm_ rs_ len_ : Int32} {nowm wasm keptm iskm lnm spm lsm ldm tbm rdm : Nat → Int32} {undm gonm lefm akm vnm dym asdm lmam limm ream stsm aprm tzm spom wrom numm nuAm stlm spem wanm foum : Int32} (hA : isA S (wA f_ s_ t_ f1_ s1_ t1_ f2_ s2_ t2_ tb_ f3_ s3_ t3_ nu_ ln_ sp_ ls_ g_ ta_ pl_ pf_ ps_ pt_ fi_ hz_ ks_ tz_ ra_ rf_ rt_ la_ lb_ lc_ mp_ mv_ mk_ mo_ my_ mw_ ma_ ml_ ak_ dy_ br_ ad_ dp_ lm_ rs_ len_)) (hM : isMd S (wMd nowm wasm keptm iskm lnm spm lsm ldm tbm rdm undm gonm lefm akm vnm dym asdm lmam limm ream stsm aprm tzm spom wrom numm nuAm stlm spem wanm foum)) (next : ∀ (S' : St) (σ : List AE), LW S' σ → LAt l N X Post i 1780 σ) : LAt l N X Post i 927 (wL f_ s_ t_ f1_ s1_ t1_ f2_ s2_ t2_ tb_ f3_ s3_ t3_ nu_ ln_ sp_ ls_ g_ ta_ pl_ pf_ ps_ pt_ fi_ hz_ ks_ tz_ ra_ rf_ rt_ la_ lb_ lc_ mp_ mv_ mk_ mo_ my_ mw_ ma_ ml_ ak_ dy_ br_ ad_ dp_ lm_ rs_ len_ nowm wasm keptm iskm lnm spm lsm ldm tbm rdm undm gonm lefm akm vnm dym asdm lmam limm ream stsm aprm tzm spom wrom numm nuAm stlm spem wanm foum) := by
  refine AW.go (bs := bLa19 ++ bLb19) [1780] 80 (z_chk_app tLa19 tLb19) ?_
  refine And.intro (zx_in (by omega) hN) ?_
  show ∃ sp : Sp, _
  refine callLA (fun _ => rfl) (v_joined l) (by decide) rfl ⟨S, hA, _, rfl, hX _, kkLAl (fun f' s' t' f1' s1' t1' f2' s2' t2' tb' f3' s3' t3' nu' ln' sp' ls' g' ta' pl' pf' ps' pt' fi' hz' ks' tz' ra' rf' rt' la' lb' lc' mp' mv' mk' mo' my' mw' ma' ml' ak' dy' br' ad' dp' lm' rs' len' hA => ?_)⟩
  refine And.intro (zx_in (by omega) hN) ?_
  show ∃ sp : Sp, _
  refine callLM (fun _ => rfl) (v_mjoined l) (by decide) rfl ⟨S, hM, _, rfl, hX _, kkLMl (fun nowm' wasm' keptm' iskm' lnm' spm' lsm' ldm' tbm' rdm' undm' gonm' lefm' akm' vnm' dym' asdm' lmam' limm' ream' stsm' aprm' tzm' spom' wrom' numm' nuAm' stlm' spem' wanm' foum' hM => ?_)⟩
  refine And.intro (fun _ => ?_) (fun q => absurd ((lg_eq0 _ _).mpr rfl) q)
  exact next _ _ ⟨_, _, _, _, _, _, _, _, _, _, _, _, _, _, _, _, _, _, _, _, _, _, _, _, _, _, _, _, _, _, _, _, _, _, _, _, _, _, _, _, _, _, _, _, _, _, _, _, _, _, _, _, _, _, _, _, _, _, _, _, _, _, _, _, _, _, _, _, _, _, _, _, _, _, _, _, _, _, _, _, rfl, hA, hM⟩
set_option maxRecDepth 20000 in
theorem law_20 (l : Launch) {Post : Option Value → List AE → Prop} {S : St} {N i : Nat} {X : Nat → Int} (hX : ∀ k, ir (X k)) (hi : i + 6 ≤ N) (hN : N ≤ 3072) {f_ s_ t_ f1_ s1_ t1_ f2_ s2_ t2_ tb_ f3_ s3_ t3_ nu_ ln_ sp_ ls_ g_ ta_ pl_ : Nat → Int32} {pf_ ps_ pt_ : Nat → Nat → Int32} {fi_ hz_ ks_ tz_ ra_ rf_ rt_ la_ lb_ lc_ mp_ mv_ mk_ mo_ my_ mw_ ma_ ml_ ak_ dy_ br_ ad_ dp_ lm_ rs_ len_ : Int32} {nowm wasm keptm iskm lnm spm lsm ldm tbm rdm : Nat → Int32} {undm gonm lefm akm vnm dym asdm lmam limm ream stsm aprm tzm spom wrom numm nuAm stlm spem wanm foum : Int32} (hA : isA S (wA f_ s_ t_ f1_ s1_ t1_ f2_ s2_ t2_ tb_ f3_ s3_ t3_ nu_ ln_ sp_ ls_ g_ ta_ pl_ pf_ ps_ pt_ fi_ hz_ ks_ tz_ ra_ rf_ rt_ la_ lb_ lc_ mp_ mv_ mk_ mo_ my_ mw_ ma_ ml_ ak_ dy_ br_ ad_ dp_ lm_ rs_ len_)) (hM : isMd S (wMd nowm wasm keptm iskm lnm spm lsm ldm tbm rdm undm gonm lefm akm vnm dym asdm lmam limm ream stsm aprm tzm spom wrom numm nuAm stlm spem wanm foum)) (next : ∀ (S' : St) (σ : List AE), LW S' σ → LAt l N X Post i 1780 σ) : LAt l N X Post i 951 (wL f_ s_ t_ f1_ s1_ t1_ f2_ s2_ t2_ tb_ f3_ s3_ t3_ nu_ ln_ sp_ ls_ g_ ta_ pl_ pf_ ps_ pt_ fi_ hz_ ks_ tz_ ra_ rf_ rt_ la_ lb_ lc_ mp_ mv_ mk_ mo_ my_ mw_ ma_ ml_ ak_ dy_ br_ ad_ dp_ lm_ rs_ len_ nowm wasm keptm iskm lnm spm lsm ldm tbm rdm undm gonm lefm akm vnm dym asdm lmam limm ream stsm aprm tzm spom wrom numm nuAm stlm spem wanm foum) := by
  refine AW.go (bs := bLa20 ++ bLb20) [1780] 80 (z_chk_app tLa20 tLb20) ?_
  refine And.intro (zx_in (by omega) hN) ?_
  refine And.intro (zx_in (by omega) hN) ?_
  refine And.intro (zx_in (by omega) hN) ?_
  show ∃ sp : Sp, _
  refine callLA (fun _ => rfl) (v_step l) (by decide) rfl ⟨S, hA, _, _, _, rfl, hX _, hX _, hX _, kkLA (fun f' s' t' f1' s1' t1' f2' s2' t2' tb' f3' s3' t3' nu' ln' sp' ls' g' ta' pl' pf' ps' pt' fi' hz' ks' tz' ra' rf' rt' la' lb' lc' mp' mv' mk' mo' my' mw' ma' ml' ak' dy' br' ad' dp' lm' rs' len' hA => ?_)⟩
  refine And.intro (zx_in (by omega) hN) ?_
  refine And.intro (zx_in (by omega) hN) ?_
  refine And.intro (zx_in (by omega) hN) ?_
  show ∃ sp : Sp, _
  refine callLM (fun _ => rfl) (v_mstep l) (by decide) rfl ⟨S, hM, _, _, _, rfl, hX _, hX _, hX _, kkLM (fun nowm' wasm' keptm' iskm' lnm' spm' lsm' ldm' tbm' rdm' undm' gonm' lefm' akm' vnm' dym' asdm' lmam' limm' ream' stsm' aprm' tzm' spom' wrom' numm' nuAm' stlm' spem' wanm' foum' hM => ?_)⟩
  refine And.intro (fun _ => ?_) (fun q => absurd rfl q)
  exact next _ _ ⟨_, _, _, _, _, _, _, _, _, _, _, _, _, _, _, _, _, _, _, _, _, _, _, _, _, _, _, _, _, _, _, _, _, _, _, _, _, _, _, _, _, _, _, _, _, _, _, _, _, _, _, _, _, _, _, _, _, _, _, _, _, _, _, _, _, _, _, _, _, _, _, _, _, _, _, _, _, _, _, _, rfl, hA, hM⟩
set_option maxRecDepth 20000 in
theorem law_21 (l : Launch) {Post : Option Value → List AE → Prop} {S : St} {N i : Nat} {X : Nat → Int} (hX : ∀ k, ir (X k)) (hi : i + 6 ≤ N) (hN : N ≤ 3072) {f_ s_ t_ f1_ s1_ t1_ f2_ s2_ t2_ tb_ f3_ s3_ t3_ nu_ ln_ sp_ ls_ g_ ta_ pl_ : Nat → Int32} {pf_ ps_ pt_ : Nat → Nat → Int32} {fi_ hz_ ks_ tz_ ra_ rf_ rt_ la_ lb_ lc_ mp_ mv_ mk_ mo_ my_ mw_ ma_ ml_ ak_ dy_ br_ ad_ dp_ lm_ rs_ len_ : Int32} {nowm wasm keptm iskm lnm spm lsm ldm tbm rdm : Nat → Int32} {undm gonm lefm akm vnm dym asdm lmam limm ream stsm aprm tzm spom wrom numm nuAm stlm spem wanm foum : Int32} (hA : isA S (wA f_ s_ t_ f1_ s1_ t1_ f2_ s2_ t2_ tb_ f3_ s3_ t3_ nu_ ln_ sp_ ls_ g_ ta_ pl_ pf_ ps_ pt_ fi_ hz_ ks_ tz_ ra_ rf_ rt_ la_ lb_ lc_ mp_ mv_ mk_ mo_ my_ mw_ ma_ ml_ ak_ dy_ br_ ad_ dp_ lm_ rs_ len_)) (hM : isMd S (wMd nowm wasm keptm iskm lnm spm lsm ldm tbm rdm undm gonm lefm akm vnm dym asdm lmam limm ream stsm aprm tzm spom wrom numm nuAm stlm spem wanm foum)) (next : ∀ (S' : St) (σ : List AE), LW S' σ → LAt l N X Post i 1780 σ) : LAt l N X Post i 994 (wL f_ s_ t_ f1_ s1_ t1_ f2_ s2_ t2_ tb_ f3_ s3_ t3_ nu_ ln_ sp_ ls_ g_ ta_ pl_ pf_ ps_ pt_ fi_ hz_ ks_ tz_ ra_ rf_ rt_ la_ lb_ lc_ mp_ mv_ mk_ mo_ my_ mw_ ma_ ml_ ak_ dy_ br_ ad_ dp_ lm_ rs_ len_ nowm wasm keptm iskm lnm spm lsm ldm tbm rdm undm gonm lefm akm vnm dym asdm lmam limm ream stsm aprm tzm spom wrom numm nuAm stlm spem wanm foum) := by
  refine AW.go (bs := bLa21 ++ bLb21) [1780] 80 (z_chk_app tLa21 tLb21) ?_
  refine And.intro (zx_in (by omega) hN) ?_
  refine And.intro (zx_in (by omega) hN) ?_
  refine And.intro (zx_in (by omega) hN) ?_
  show ∃ sp : Sp, _
  refine callLA (fun _ => rfl) (v_chain l) (by decide) rfl ⟨S, hA, _, _, _, rfl, hX _, hX _, hX _, kkLA (fun f' s' t' f1' s1' t1' f2' s2' t2' tb' f3' s3' t3' nu' ln' sp' ls' g' ta' pl' pf' ps' pt' fi' hz' ks' tz' ra' rf' rt' la' lb' lc' mp' mv' mk' mo' my' mw' ma' ml' ak' dy' br' ad' dp' lm' rs' len' hA => ?_)⟩
  refine And.intro (zx_in (by omega) hN) ?_
  refine And.intro (zx_in (by omega) hN) ?_
  refine And.intro (zx_in (by omega) hN) ?_
  show ∃ sp : Sp, _
  refine callLM (fun _ => rfl) (v_mchain l) (by decide) rfl ⟨S, hM, _, _, _, rfl, hX _, hX _, hX _, kkLM (fun nowm' wasm' keptm' iskm' lnm' spm' lsm' ldm' tbm' rdm' undm' gonm' lefm' akm' vnm' dym' asdm' lmam' limm' ream' stsm' aprm' tzm' spom' wrom' numm' nuAm' stlm' spem' wanm' foum' hM => ?_)⟩
  refine And.intro (fun _ => ?_) (fun q => absurd rfl q)
  exact next _ _ ⟨_, _, _, _, _, _, _, _, _, _, _, _, _, _, _, _, _, _, _, _, _, _, _, _, _, _, _, _, _, _, _, _, _, _, _, _, _, _, _, _, _, _, _, _, _, _, _, _, _, _, _, _, _, _, _, _, _, _, _, _, _, _, _, _, _, _, _, _, _, _, _, _, _, _, _, _, _, _, _, _, rfl, hA, hM⟩
