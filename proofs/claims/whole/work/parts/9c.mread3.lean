/-! the model reads parts -/
set_option maxRecDepth 20000 in
theorem rdN_less {T : Tp} {ok ok' : Int → Bool} {a F : Nat} (h : rdN T ok a = .inl F) (hm : ∀ v, 0 ≤ v → ok' v = true → ok v = true) : rdN T ok' a = .inl F := by
  unfold rdN at h ⊢
  split at h
  · next q => rw [if_pos q]; exact h
  · next q =>
    split at h
    · cases h
    · next q2 => rw [if_neg q, if_neg (fun w => q2 (hm _ nv_rng.1 w))]; exact h
set_option maxRecDepth 20000 in
theorem rdN_same {T : Tp} {ok ok' : Int → Bool} {a e : Nat} {v : Int} (h : rdN T ok a = .inr (v, e)) (hv : ok' v = true) : rdN T ok' a = .inr (v, e) := by
  obtain ⟨h1, h2, h3, h4⟩ := rdN_inr h
  unfold rdN
  rw [if_neg h4, ← h1, if_pos hv, ← h2]
set_option maxRecDepth 20000 in
theorem rdN_not {T : Tp} {ok ok' : Int → Bool} {a e : Nat} {v : Int} (h : rdN T ok a = .inr (v, e)) (hv : ok' v = false) : rdN T ok' a = .inl (8 * sk T a + 2) := by
  obtain ⟨h1, h2, h3, h4⟩ := rdN_inr h
  unfold rdN
  rw [if_neg h4, ← h1, hv]
  rfl
set_option maxRecDepth 20000 in
theorem rdNum_116 (T : Tp) (P : Nat) (b : Int) (a : Nat) : rdNum T P 116 b a = rdN T (ft P 116 b) a := by unfold rdNum; rw [if_neg (fun q => by have := q.1; omega)]
set_option maxRecDepth 20000 in
theorem wrote_snoc {rd rd' : Nat → Int32} {j : Nat} {vs : List Int} (h : wrote rd rd' j vs) (z : Int) {i : Nat} (hi : i = j + vs.length) : wrote rd (upd rd' i (iI z)) j (vs ++ [z]) := by
  subst hi
  refine ⟨fun c hc => ?_, fun y hy => ?_⟩
  · rw [List.length_append] at hc
    have hc : c < vs.length + 1 := hc
    unfold upd
    by_cases e : c = vs.length
    · rw [if_pos (by omega), e, List.getD_eq_getElem?_getD, List.getElem?_concat_length]; rfl
    · rw [if_neg (by omega), h.1 c (by omega), List.getD_eq_getElem?_getD, List.getD_eq_getElem?_getD, List.getElem?_append_left (by omega)]
  · rw [List.length_append] at hy
    have hy : y < j ∨ j + (vs.length + 1) ≤ y := hy
    unfold upd; rw [if_neg (by omega)]; exact h.2 y (by omega)
set_option maxRecDepth 20000 in
theorem v_mrstand (l : Launch) : z_V l 245 sp_mrstand := by
  refine z_V.ofP (by decide +kernel) ?_
  rintro as σ K Post ⟨now, was, kept, isk, ln, sp, ls, ld, tb, rd, und, gon, lef, ak, vn, dy, asd, lma, lim, rea, sts, apr, tz, spo, wro, num, nuA, stl, spe, wan, fou, T, a, j, P, b, xa, rfl, rfl, rfl, hT, ha, hj, hS, hF⟩ hP1 hP0
  have e1 : rdN T (fun v => decide (0 ≤ v ∧ v ≤ 15)) a = rdNum T P 110 b a := rdNum_eq (by decide) (fun v hv => by
    show decide (0 ≤ v ∧ v ≤ 15) = decide (v < 16)
    exact decide_eq_decide.mpr (by omega))
  refine AW.go (bs := b_Mod_readsStand) [] 80 t_Mod_readsStand ?_
  refine ⟨_, v_mrto l, by decide, _, _, _, _, _, _, _, _, _, _, _, _, _, _, _, _, _, _, _, _, _, _, 0, 0, _, _, _, _, _, _, _, T, a, j, 0, 15, _, _, _, rfl, rfl, rfl, rfl, rfl, hT, ha, by omega, ⟨by omega, by omega⟩, ⟨by omega, by omega⟩, fun v e q num => ?_, fun F q spo num nuA => ?_⟩
  · rw [e1] at q
    have he := rdNum_le ha q
    have hv := rdNum_rng ha (by decide) q
    refine And.intro (fun w => absurd w (by first | decide | (rw [zd_iff]; decide))) (fun _ => ?_)
    refine ⟨_, v_mrto l, by decide, _, _, _, _, _, _, _, _, _, _, _, _, _, _, _, _, _, _, _, _, _, _, 0, 0, _, _, _, _, _, _, _, T, e, j + 1, 0, 15, _, _, _, rfl, zn_inc j, rfl, rfl, rfl, hT, he, by omega, ⟨by omega, by omega⟩, ⟨by omega, by omega⟩, fun u e2 q2 num => ?_, fun F q2 spo num nuA => ?_⟩
    · have hu := (rdN_inr q2).1
      have hu2 := nv_rng (T := T) (s := sk T e)
      have hu3 := of_decide_eq_true (rdN_inr q2).2.2.1
      refine And.intro (fun _ => ?_) (fun w => absurd (show z_cond .ne (iI 1) 0 by first | decide | (rw [zd_iff]; decide)) w)
      refine And.intro (zN_in (by omega) (by omega)) ?_
      show _ ∧ _
      rw [zn_inc j]
      refine And.intro (zN_in (by omega) (by omega)) ?_
      have g1 : upd (upd rd j (iI v)) (j + 1) (iI u) (iI (j : Int)).toNatClampNeg = iI v := by
        rw [zN_cl (by omega)]; unfold upd; rw [if_neg (by omega), if_pos rfl]
      have g2 : upd (upd rd j (iI v)) (j + 1) (iI u) (iI ((j + 1 : Nat) : Int)).toNatClampNeg = iI u := by
        rw [zN_cl (by omega)]; unfold upd; rw [if_pos rfl]
      show _ ∧ _
      rw [g1, g2]
      refine And.symm (And.intro (fun q3 => ?_) (fun q3 => ?_))
      · rw [zc_ne (by omega) (by omega) (by omega) (by omega), Classical.not_not] at q3
        have r2 : rdNum T P 116 v e = .inl (8 * sk T e + 2) := by
          rw [rdNum_116]; exact rdN_not q2 (by show decide (u < 16 ∧ u ≠ v) = false; exact decide_eq_false (by omega))
        refine ⟨_, v_mfails l, by decide, _, _, _, _, _, _, _, _, _, _, _, _, _, _, _, _, _, _, _, _, _, _, _, _, _, _, _, _, _, _, _, 2, sk T e, rfl, rfl, ?_⟩
        exact And.intro (Or.inl rfl) (hP1 _ _ (hF _ (rdNums_2 q (rdNums_1 r2)) _ _ _ _))
      · rw [zc_ne (by omega) (by omega) (by omega) (by omega)] at q3
        have r2 : rdNum T P 116 v e = .inr (u, e2) := by
          rw [rdNum_116]; exact rdN_same q2 (by show decide (u < 16 ∧ u ≠ v) = true; exact decide_eq_true (by omega))
        have he2 := rdNum_le he r2
        refine ⟨_, v_mrdays l, by decide, _, _, _, _, _, _, _, _, _, _, _, _, _, _, _, _, _, _, _, _, _, _, 0, 0, _, _, _, _, _, _, _, T, e2, j + 2, P, u, _, rfl, by rw [zn_i, iI_add]; rfl, rfl, hT, he2, by omega, fun vs e3 q4 rd' num nuA hw => ?_, fun F q4 rd' spo num nuA => ?_⟩
        · obtain ⟨c1, c2, c3⟩ := rdNums_inr he2 q4
          have hl : vs.length = 2 := chk_len c1
          have app := rdNums_app (hs := [108]) q4
          have e4 : rdN T (fun w => decide (0 ≤ w ∧ w ≤ 9999)) e3 = rdNum T P 108 (vs.getLastD u) e3 := rdNum_eq (by decide) (fun w hw => by
            show decide (0 ≤ w ∧ w ≤ 9999) = decide (w ≤ 9999)
            exact decide_eq_decide.mpr (by omega))
          refine And.intro (fun w => absurd w (by first | decide | (rw [zd_iff]; decide))) (fun _ => ?_)
          refine ⟨_, v_mrto l, by decide, _, _, _, _, _, _, _, _, _, _, _, _, _, _, _, _, _, _, _, _, _, _, 0, 0, _, _, _, _, _, _, _, T, e3, j + 4, 0, 9999, _, _, _, rfl, by rw [zn_i, iI_add]; rfl, rfl, rfl, rfl, hT, c3, by omega, ⟨by omega, by omega⟩, ⟨by omega, by omega⟩, fun z e5 q5 num => ?_, fun F q5 spo num nuA => ?_⟩
          · rw [e4] at q5
            refine And.intro (fun w => absurd w (by first | decide | (rw [zd_iff]; decide))) (fun _ => ?_)
            exact And.intro (Or.inr rfl) (hP1 _ _ (hS _ _ (rdNums_3 q (rdNums_3 r2 (app.2 (rdNums_3 q5 rfl)))) _ _ _ (wrote_cons (wrote_cons (wrote_snoc hw z (by omega))))))
          · rw [e4] at q5
            refine And.intro (fun _ => ?_) (fun w => absurd rfl w)
            exact And.intro (Or.inl rfl) (hP1 _ _ (hF _ (rdNums_2 q (rdNums_2 r2 (app.1 (rdNums_1 q5)))) _ _ _ _))
        · have app : rdNums T P [102, 100, 108] u e2 = .inl F := rdNums_pre (hs := [108]) q4
          refine And.intro (fun _ => ?_) (fun w => absurd rfl w)
          exact And.intro (Or.inl rfl) (hP1 _ _ (hF _ (rdNums_2 q (rdNums_2 r2 app)) _ _ _ _))
    · have r2 : rdNum T P 116 v e = .inl F := by
        rw [rdNum_116]
        exact rdN_less q2 (fun w hw0 hw => by have := of_decide_eq_true (show decide (w < 16 ∧ w ≠ v) = true from hw); exact decide_eq_true (by omega))
      refine And.intro (fun w => absurd w (by first | decide | (rw [zd_iff]; decide))) (fun _ => ?_)
      exact And.intro (Or.inl rfl) (hP1 _ _ (hF _ (rdNums_2 q (rdNums_1 r2)) _ _ _ _))
  · rw [e1] at q
    refine And.intro (fun _ => ?_) (fun w => absurd rfl w)
    exact And.intro (Or.inl rfl) (hP1 _ _ (hF _ (rdNums_1 q) _ _ _ _))
set_option maxRecDepth 20000 in
theorem RM_wrote {rd rd' : Nat → Int32} {D : Od} {d : Nat} {vs : List Int} (h : RM rd D) (hd : d < 4) (hn : D.1 d < oX d) (hw : wrote rd rd' (mi d (D.1 d) 0) vs) (hl : vs.length = oW d) : RM (upd rd' (mS d) (iI ((D.1 d + 1 : Nat) : Int))) (oAdd D d (fun i => vs.getD i 0)) := by
  have hs := mS_lt (show d < 6 by omega)
  have hm : ∀ c, mi d (D.1 d) c = mi d (D.1 d) 0 + c := fun c => by unfold mi; omega
  have hlow : ∀ c, c < oW d → 9 ≤ mi d (D.1 d) c := fun c hc => (mi_lt' (by omega) hn hc).1
  have hW : 0 < oW d := by rcases d4 hd with rfl | rfl | rfl | rfl <;> decide
  have h0 := hlow 0 hW
  refine h.add (by omega) hn (fun c hc => ?_) ?_ (fun y h1 h2 => ?_)
  · have := hlow c hc
    unfold upd
    rw [if_neg (by omega), hm, hw.1 c (by omega), mVal, if_neg (fun q => by omega)]
  · unfold upd; rw [if_pos rfl]
  · unfold upd
    rw [if_neg h1]
    refine hw.2 y ?_
    by_cases q : y < mi d (D.1 d) 0
    · exact Or.inl q
    · by_cases q2 : mi d (D.1 d) 0 + vs.length ≤ y
      · exact Or.inr q2
      · exact absurd (by rw [hm]; omega) (h2 (y - mi d (D.1 d) 0) (by omega))
set_option maxRecDepth 20000 in
theorem mS_low {d : Nat} (hd : d < 4) : mS d = 1 + d := by rcases d4 hd with rfl | rfl | rfl | rfl <;> rfl
def sp_mrentry : Sp := (6, 0, 0, pMd, fun as σ K => ∃ (now was kept isk ln sp ls ld tb rd : Nat → Int32) (und gon lef ak vn dy asd lma lim rea sts apr tz spo wro num nuA stl spe wan fou : Int32) (T : Tp) (a : Nat) (D : Od) (d : Nat), as = [.ref 0, .int (iI (d : Int))] ∧ σ = (wMd now was kept isk ln sp ls ld tb rd und gon lef ak vn dy asd lma lim rea sts apr (iI (T.1 : Int)) (iI ((a : Nat) : Int)) wro num nuA stl spe wan fou) ∧ TB T tb ∧ a + sln (wrd d) ≤ T.1 ∧ d < 4 ∧ RM rd D ∧ OKM D ∧
  (oX d ≤ D.1 d → K (some (.int (iI 0))) (some (wMd now was kept isk ln sp ls ld tb rd und gon lef ak vn dy asd lma lim rea sts apr (iI (T.1 : Int)) (iI ((a : Nat) : Int)) (iI ((8 * a + 3 : Nat) : Int)) num nuA stl spe wan fou))) ∧
  (D.1 d < oX d → ∀ vs e, rdNums T (D.1 4) (strL (sgn d)) (-1) (a + sln (wrd d)) = .inr (vs, e) → ∀ rd num nuA, RM rd (oAdd D d (fun i => vs.getD i 0)) → K (some (.int (iI 1))) (some (wMd now was kept isk ln sp ls ld tb rd und gon lef ak vn dy asd lma lim rea sts apr (iI (T.1 : Int)) (iI ((e : Nat) : Int)) wro num nuA stl spe wan fou))) ∧ (D.1 d < oX d → ∀ F : Nat, rdNums T (D.1 4) (strL (sgn d)) (-1) (a + sln (wrd d)) = .inl F → ∀ rd spo num nuA, K (some (.int (iI 0))) (some (wMd now was kept isk ln sp ls ld tb rd und gon lef ak vn dy asd lma lim rea sts apr (iI (T.1 : Int)) spo (iI (F : Int)) num nuA stl spe wan fou))))
set_option maxRecDepth 20000 in
theorem v_mrentry (l : Launch) : z_V l 247 sp_mrentry := by
  refine z_V.ofP (by decide +kernel) ?_
  rintro as σ K Post ⟨now, was, kept, isk, ln, sp, ls, ld, tb, rd, und, gon, lef, ak, vn, dy, asd, lma, lim, rea, sts, apr, tz, spo, wro, num, nuA, stl, spe, wan, fou, T, a, D, d, rfl, rfl, hT, ha, hd, hN, hO, hX, hS, hF⟩ hP1 hP0
  have h4 := hT.1
  have hsz := hN.size d (by omega)
  rw [mS_low hd] at hsz
  have hmx := hO.2.2.2.2.2.2.2.2.2 d (by omega)
  have hx40 := oX_le d
  have hx4 := hO.2.2.2.2.2.2.2.2.2 4 (by omega)
  rw [x_4] at hx4
  have e1d : z_nn 1 0 + iI (d : Int) = iI ((1 + d : Nat) : Int) := by rw [zn_i, iI_add]; rfl
  have eat : iI ((mB d : Nat) : Int) + iI ((oW d : Nat) : Int) * iI ((D.1 d : Nat) : Int) = iI ((mi d (D.1 d) 0 : Nat) : Int) := by
    rw [iI_mul, iI_add]; first | rfl | (congr 1; done) | (congr 1; unfold mi; omega)
  have hW : 0 < oW d ∧ oW d ≤ 5 := by rcases d4 hd with rfl | rfl | rfl | rfl <;> decide
  have hlen : sln (sgn d) = oW d := (sgn_len d (by omega) (by omega)).1 (by omega)
  -- behind the numbers
  have fin : ∀ (x2 x3 : Option Value) (rd' : Nat → Int32) (spo num nuA : Int32) (e : Nat) (vs : List Int), D.1 d < oX d → rdNums T (D.1 4) (strL (sgn d)) (-1) (a + sln (wrd d)) = .inr (vs, e) → wrote rd rd' (mi d (D.1 d) 0) vs → spo = iI (e : Int) → AW l 247 6 0 0 11 none Post 146 [some (.ref 0), some (.int (iI (d : Int))), x2, x3, some (.int (iI 1))] [] (wMd now was kept isk ln sp ls ld tb rd' und gon lef ak vn dy asd lma lim rea sts apr (iI (T.1 : Int)) spo wro num nuA stl spe wan fou) 0 0 := by
    intro x2 x3 rd' spo num nuA e vs hn hvs hw hspo
    subst hspo
    have hl : vs.length = oW d := by rw [← hlen]; exact chk_len (rdNums_inr (by omega) hvs).1
    have hR := RM_wrote hN hd hn hw hl
    have h9 := (mi_lt' (show d < 6 by omega) hn hW.1).1
    have hold : rd' (1 + d) = iI ((D.1 d : Nat) : Int) := by rw [hw.2 (1 + d) (Or.inl (by omega)), hsz]
    refine AW.go (bs := b_Mod_readsEntry) [] 60 t_Mod_readsEntry ?_
    refine And.intro (fun w => absurd w (by first | decide | (rw [zd_iff]; decide))) (fun _ => ?_)
    show _ ∧ _
    rw [e1d]
    refine And.intro (zN_in (by omega) (by omega)) ?_
    refine And.intro (zN_in (by omega) (by omega)) ?_
    show _ ∧ Post _ _
    rw [zN_cl (by omega), hold, zn_inc, ← mS_low hd]
    exact And.intro (Or.inr rfl) (hP1 _ _ (hS hn vs e hvs _ _ _ hR))
  have finF : ∀ (x2 x3 : Option Value) (rd : Nat → Int32) (spo num nuA : Int32) (F : Nat), D.1 d < oX d → rdNums T (D.1 4) (strL (sgn d)) (-1) (a + sln (wrd d)) = .inl F → AW l 247 6 0 0 11 none Post 146 [some (.ref 0), some (.int (iI (d : Int))), x2, x3, some (.int (iI 0))] [] (wMd now was kept isk ln sp ls ld tb rd und gon lef ak vn dy asd lma lim rea sts apr (iI (T.1 : Int)) spo (iI (F : Int)) num nuA stl spe wan fou) 0 0 := by
    intro x2 x3 rd spo num nuA F hn hvs
    refine AW.go (bs := b_Mod_readsEntry) [] 60 t_Mod_readsEntry ?_
    refine And.intro (fun _ => ?_) (fun w => absurd rfl w)
    exact And.intro (Or.inl rfl) (hP1 _ _ (hF hn F hvs _ _ _ _))
  have hsP : rd 0 = iI ((D.1 4 : Nat) : Int) := hN.size 4 (by omega)
  have body : ∀ x2 : Option Value, D.1 d < oX d → AW l 247 6 0 0 11 none Post 35 [some (.ref 0), some (.int (iI (d : Int))), some (.int (iI ((D.1 d : Nat) : Int))), none, none] [] (wMd now was kept isk ln sp ls ld tb rd und gon lef ak vn dy asd lma lim rea sts apr (iI (T.1 : Int)) (iI ((a + sln (wrd d) : Nat) : Int)) wro num nuA stl spe wan fou) 0 0 := by
    intro x2 hn
    have hend : mi d (D.1 d) 0 + oW d ≤ 657 := by
      have := (mi_lt' (show d < 6 by omega) hn (show oW d - 1 < oW d by omega)).2
      unfold mi at this ⊢; omega
    have h9 := (mi_lt' (show d < 6 by omega) hn hW.1).1
    rcases d4 hd with rfl | rfl | rfl | rfl
    · refine AW.go (bs := b_Mod_readsEntry) [146] 60 t_Mod_readsEntry ?_
      refine ⟨_, v_mbeginOf l, by decide, rfl, 0, rfl, by omega, ?_⟩
      refine ⟨_, v_mlongOf l, by decide, rfl, 0, rfl, by omega, ?_⟩
      refine And.intro (fun w => absurd w (by first | decide | (rw [zd_iff]; decide))) (fun _ => ?_)
      refine ⟨_, v_mrhold l, by decide, _, _, _, _, _, _, _, _, _, _, _, _, _, _, _, _, _, _, _, _, _, _, 0, 0, _, _, _, _, _, _, _, T, a + sln (wrd 0), mi 0 (D.1 0) 0, D.1 4, -1, _, rfl, eat, rfl, hT, ha, h9, by rw [w_0] at hend; omega, hsP, hx4, fun vs e q rd' num nuA hw => ?_, fun F q rd' spo num nuA => ?_⟩
      · exact fin _ _ _ _ _ _ e vs hn q hw rfl
      · exact finF _ _ _ _ _ _ F hn q
    · have e1 : rdN T (fun v => decide (0 ≤ v ∧ v ≤ 15)) (a + sln (wrd 1)) = rdNum T (D.1 4) 110 (-1) (a + sln (wrd 1)) := rdNum_eq (by decide) (fun v hv => by
        show decide (0 ≤ v ∧ v ≤ 15) = decide (v < 16)
        exact decide_eq_decide.mpr (by omega))
      rw [w_1] at hend
      refine AW.go (bs := b_Mod_readsEntry) [146] 60 t_Mod_readsEntry ?_
      refine ⟨_, v_mbeginOf l, by decide, rfl, 1, rfl, by omega, ?_⟩
      refine ⟨_, v_mlongOf l, by decide, rfl, 1, rfl, by omega, ?_⟩
      refine And.intro (fun _ => ?_) (fun w => absurd (by first | decide | (rw [zd_iff]; decide)) w)
      refine And.intro (fun w => absurd w (by first | decide | (rw [zd_iff]; decide))) (fun _ => ?_)
      refine ⟨_, v_mrto l, by decide, _, _, _, _, _, _, _, _, _, _, _, _, _, _, _, _, _, _, _, _, _, _, 0, 0, _, _, _, _, _, _, _, T, a + sln (wrd 1), mi 1 (D.1 1) 0, 0, 15, _, _, _, rfl, eat, rfl, rfl, rfl, hT, ha, by omega, ⟨by omega, by omega⟩, ⟨by omega, by omega⟩, fun v e q num => ?_, fun F q spo num nuA => ?_⟩
      · rw [e1] at q
        refine And.intro (fun w => absurd w (by first | decide | (rw [zd_iff]; decide))) (fun _ => ?_)
        refine ⟨_, v_mrdays l, by decide, _, _, _, _, _, _, _, _, _, _, _, _, _, _, _, _, _, _, _, _, _, _, 0, 0, _, _, _, _, _, _, _, T, e, mi 1 (D.1 1) 0 + 1, D.1 4, v, _, rfl, by rw [eat]; exact zn_inc _, rfl, hT, rdNum_le ha q, by omega, fun vs e2 q2 rd' num nuA hw => ?_, fun F q2 rd' spo num nuA => ?_⟩
        · refine And.intro (fun w => absurd w (by first | decide | (rw [zd_iff]; decide))) (fun _ => ?_)
          exact fin _ _ _ _ _ _ e2 _ hn (rdNums_3 q q2) (wrote_cons hw) rfl
        · refine And.intro (fun _ => ?_) (fun w => absurd rfl w)
          exact finF _ _ _ _ _ _ F hn (rdNums_2 q q2)
      · rw [e1] at q
        refine And.intro (fun _ => ?_) (fun w => absurd rfl w)
        exact finF _ _ _ _ _ _ F hn (rdNums_1 q)
    · rw [w_2] at hend
      refine AW.go (bs := b_Mod_readsEntry) [146] 60 t_Mod_readsEntry ?_
      refine ⟨_, v_mbeginOf l, by decide, rfl, 2, rfl, by omega, ?_⟩
      refine ⟨_, v_mlongOf l, by decide, rfl, 2, rfl, by omega, ?_⟩
      refine And.intro (fun _ => ?_) (fun w => absurd (by first | decide | (rw [zd_iff]; decide)) w)
      refine And.intro (fun _ => ?_) (fun w => absurd (by first | decide | (rw [zd_iff]; decide)) w)
      refine And.intro (fun w => absurd w (by first | decide | (rw [zd_iff]; decide))) (fun _ => ?_)
      refine ⟨_, v_mrstand l, by decide, _, _, _, _, _, _, _, _, _, _, _, _, _, _, _, _, _, _, _, _, _, _, 0, 0, _, _, _, _, _, _, _, T, a + sln (wrd 2), mi 2 (D.1 2) 0, D.1 4, -1, _, rfl, eat, rfl, hT, ha, by omega, fun vs e q rd' num nuA hw => ?_, fun F q rd' spo num nuA => ?_⟩
      · exact fin _ _ _ _ _ _ e vs hn q hw rfl
      · exact finF _ _ _ _ _ _ F hn q
    · have e1 : rdN T (fun v => decide (0 ≤ v ∧ v ≤ 15)) (a + sln (wrd 3)) = rdNum T (D.1 4) 110 (-1) (a + sln (wrd 3)) := rdNum_eq (by decide) (fun v hv => by
        show decide (0 ≤ v ∧ v ≤ 15) = decide (v < 16)
        exact decide_eq_decide.mpr (by omega))
      rw [w_3] at hend
      refine AW.go (bs := b_Mod_readsEntry) [146] 60 t_Mod_readsEntry ?_
      refine ⟨_, v_mbeginOf l, by decide, rfl, 3, rfl, by omega, ?_⟩
      refine ⟨_, v_mlongOf l, by decide, rfl, 3, rfl, by omega, ?_⟩
      refine And.intro (fun _ => ?_) (fun w => absurd (by first | decide | (rw [zd_iff]; decide)) w)
      refine And.intro (fun _ => ?_) (fun w => absurd (by first | decide | (rw [zd_iff]; decide)) w)
      refine And.intro (fun _ => ?_) (fun w => absurd (by first | decide | (rw [zd_iff]; decide)) w)
      refine ⟨_, v_mrto l, by decide, _, _, _, _, _, _, _, _, _, _, _, _, _, _, _, _, _, _, _, _, _, _, 0, 0, _, _, _, _, _, _, _, T, a + sln (wrd 3), mi 3 (D.1 3) 0, 0, 15, _, _, _, rfl, eat, rfl, rfl, rfl, hT, ha, by omega, ⟨by omega, by omega⟩, ⟨by omega, by omega⟩, fun v e q num => ?_, fun F q spo num nuA => ?_⟩
      · rw [e1] at q
        have e2 : rdN T (fun w => decide (0 ≤ w ∧ w ≤ 9)) e = rdNum T (D.1 4) 118 v e := rdNum_eq (by decide) (fun w hw => by
          show decide (0 ≤ w ∧ w ≤ 9) = decide (w < 10)
          exact decide_eq_decide.mpr (by omega))
        refine And.intro (fun w => absurd w (by first | decide | (rw [zd_iff]; decide))) (fun _ => ?_)
        refine ⟨_, v_mrto l, by decide, _, _, _, _, _, _, _, _, _, _, _, _, _, _, _, _, _, _, _, _, _, _, 0, 0, _, _, _, _, _, _, _, T, e, mi 3 (D.1 3) 0 + 1, 0, 9, _, _, _, rfl, by rw [eat]; exact zn_inc _, rfl, rfl, rfl, hT, rdNum_le ha q, by omega, ⟨by omega, by omega⟩, ⟨by omega, by omega⟩, fun u e3 q2 num => ?_, fun F q2 spo num nuA => ?_⟩
        · rw [e2] at q2
          refine And.intro (fun w => absurd w (by first | decide | (rw [zd_iff]; decide))) (fun _ => ?_)
          exact fin _ _ _ _ _ _ e3 _ hn (rdNums_3 q (rdNums_3 q2 rfl)) (wrote_cons (wrote_cons (wrote_nil _ _))) rfl
        · rw [e2] at q2
          refine And.intro (fun _ => ?_) (fun w => absurd rfl w)
          exact finF _ _ _ _ _ _ F hn (rdNums_2 q (rdNums_1 q2))
      · rw [e1] at q
        refine And.intro (fun _ => ?_) (fun w => absurd rfl w)
        exact finF _ _ _ _ _ _ F hn (rdNums_1 q)
  have body2 := body none
  clear body fin finF
  have go : ∀ b : Bool, b = decide (D.1 d < oX d) → AW l 247 6 0 0 11 none Post 27 [some (.ref 0), some (.int (iI (d : Int))), some (.int (iI ((D.1 d : Nat) : Int))), none, none] [.int (bI b), .ref (wrd d + 2000), .ref 0] (wMd now was kept isk ln sp ls ld tb rd und gon lef ak vn dy asd lma lim rea sts apr (iI (T.1 : Int)) (iI ((a : Nat) : Int)) wro num nuA stl spe wan fou) 0 0 := by
    intro b hb
    have hwl := wrd_lt (show d < 9 by omega)
    clear eat e1d
    rcases d4 hd with rfl | rfl | rfl | rfl <;>
    · refine AW.go (bs := b_Mod_readsEntry) [35] 60 t_Mod_readsEntry ?_
      refine ⟨_, v_mtakes l, by decide, _, _, _, _, _, _, _, _, _, _, _, _, _, _, _, _, _, _, _, _, _, _, _, 0, _, _, _, _, _, _, _, a, _, b, rfl, rfl, by decide, fun q => ?_, fun q => ?_⟩
      · refine And.intro (fun w => absurd w (by first | decide | (rw [zd_iff]; decide))) (fun _ => ?_)
        rw [q] at hb
        exact And.intro (Or.inl rfl) (hP1 _ _ (hX (by have := of_decide_eq_false hb.symm; omega)))
      · refine And.intro (fun _ => ?_) (fun w => absurd (show z_cond .ne (iI 1) 0 by first | decide | (rw [zd_iff]; decide)) w)
        rw [q] at hb
        exact body2 (of_decide_eq_true hb.symm)
  clear body2 hX hS hF
  rcases d4 hd with rfl | rfl | rfl | rfl <;>
  · refine AW.go (bs := b_Mod_readsEntry) [27] 60 t_Mod_readsEntry ?_
    show _ ∧ _
    rw [e1d]
    refine And.intro (zN_in (by omega) (by omega)) ?_
    show ∃ sp : Sp, _
    rw [zN_cl (by omega), hsz]
    refine ⟨_, v_mentryWord l, by decide, _, rfl, hd, rfl, ?_⟩
    refine ⟨_, v_mmostOf l, by decide, rfl, _, rfl, hd, ?_⟩
    refine And.intro (fun h => ?_) (fun h => ?_)
    · rw [zc_ge (by omega) (by omega) (by omega) (by omega)] at h
      exact go false (decide_eq_false (by omega)).symm
    · rw [zc_ge (by omega) (by omega) (by omega) (by omega)] at h
      exact go true (decide_eq_true (by omega)).symm
