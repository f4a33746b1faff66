/-! the reader: a number, a part, the whole -/
def sp_rnum : Sp := (6, 0, 0, pRd, fun as σ K => ∃ (tbx f s t nu : Nat → Int32) (rt : Int32) (T : Tp) (a : Nat) (D : Od) (g i : Nat) (b : Int), as = [.ref 0, .int (iI (g : Int)), .int (iI b), .int (iI (i : Int))] ∧ σ = (wRd tbx (iI (T.1 : Int)) f s t nu (iI (a : Int)) (iI 0) rt) ∧ TB T tbx ∧ a ≤ T.1 ∧ sk T a = a ∧ RS f s t D ∧ sgs g ∧ ir b ∧ i < 5 ∧
  (∀ v e, rdNum T (D.1 4) g b a = .inr (v, e) → K none (some (wRd tbx (iI (T.1 : Int)) f s t (upd nu i (iI v)) (iI ((e : Nat) : Int)) (iI 0) rt))) ∧ (∀ (F : Nat), rdNum T (D.1 4) g b a = .inl F → ∀ nu ra, K none (some (wRd tbx (iI (T.1 : Int)) f s t nu ra (iI (F : Int)) rt))))
set_option maxRecDepth 20000 in
theorem v_rnum (l : Launch) : z_V l 30 sp_rnum := by
  refine z_V.ofP (by decide +kernel) ?_
  rintro as σ K Post ⟨tbx, f, s, t, nu, rt, T, a, D, g, i, b, rfl, rfl, hT, ha, hsk, hR, hg, hb, hi, hK1, hK2⟩ hP1 hP0
  obtain ⟨h4, hB⟩ := id hT
  have hwl : wl T a ≤ 400 := by have := we_rng ha; unfold wl; omega
  have hg2 : g ≤ 200 := by unfold sgs at hg; omega
  have numpart : ¬ (g = 117 ∧ isWd T a 14 = true) → AW l 30 6 0 0 8 none Post 44 [some (.ref 0), some (.int (iI (g : Int))), some (.int (iI b)), some (.int (iI (i : Int))), some (.int (iI (a : Int))), none] [] (wRd tbx (iI (T.1 : Int)) f s t nu (iI (a : Int)) (iI 0) rt) 0 0 := by
    intro hnt
    have hrd : rdNum T (D.1 4) g b a = rdN T (ft (D.1 4) g b) a := by unfold rdNum; rw [hsk, if_neg hnt]
    unfold rdN at hrd
    rw [hsk] at hrd
    have hnv := nv_rng (T := T) (s := a)
    have store : ∀ (ra rf : Int32) (V : Int), (∀ nu', nu' = upd nu i (iI V) → Post none (wRd tbx (iI (T.1 : Int)) f s t nu' ra rf rt)) → AW l 30 6 0 0 8 none Post 170 [some (.ref 0), some (.int (iI (g : Int))), some (.int (iI b)), some (.int (iI (i : Int))), some (.int (iI (a : Int))), some (.int (iI V))] [] (wRd tbx (iI (T.1 : Int)) f s t nu ra rf rt) 0 0 := by
      intro ra rf V hp
      refine AW.go (bs := b_Reader_readNumber) [] 60 t_Reader_readNumber ?_
      refine And.intro (zN_in hi (by omega)) ?_
      exact hp _ (by rw [zN_cl (by omega)])
    have fin : ∀ (x : Nat) (V : Int) (y5 ra : Int32), de T a = x → a ≤ x → V = nv T a → y5 = iI V → ra = iI (x : Int) → x ≤ T.1 → AW l 30 6 0 0 8 none Post 133 [some (.ref 0), some (.int (iI (g : Int))), some (.int (iI b)), some (.int (iI (i : Int))), some (.int (iI (a : Int))), some (.int y5)] [] (wRd tbx (iI (T.1 : Int)) f s t nu ra (iI 0) rt) 0 0 := by
      intro x V y5 ra hx hax hV h5 hra hxT
      subst h5; subst hra; subst hV
      rw [hx] at hrd
      refine AW.go (bs := b_Reader_readNumber) [170] 60 t_Reader_readNumber ?_
      refine And.symm (And.intro (fun h => ?_) (fun h => ?_))
      · rw [zc_ne (by omega) (by omega) (by omega) (by omega), Classical.not_not] at h
        rw [if_pos (by omega)] at hrd
        refine ⟨_, v_rfail l, by decide, tbx, f, s, t, nu, _, _, _, rt, a, 1, rfl, rfl, ?_⟩
        exact store _ _ _ (fun nu' _ => hP1 _ _ (hK2 _ hrd _ _))
      rw [zc_ne (by omega) (by omega) (by omega) (by omega)] at h
      rw [if_neg (by omega)] at hrd
      refine ⟨_, v_fits l, by decide, tbx, f, s, t, nu, _, _, _, rt, D, g, nv T a, b, rfl, rfl, hR, hg, ⟨by omega, by omega⟩, hb, ?_⟩
      refine And.intro (fun h2 => ?_) (fun h2 => ?_)
      · rw [zc_bne] at h2
        rw [if_pos h2] at hrd
        exact store _ _ _ (fun nu' e => hP1 _ _ (by rw [e]; exact hK1 _ _ hrd))
      · rw [zc_bne] at h2
        rw [if_neg h2] at hrd
        refine ⟨_, v_rfail l, by decide, tbx, f, s, t, nu, _, _, _, rt, a, 2, rfl, rfl, ?_⟩
        exact store _ _ _ (fun nu' _ => hP1 _ _ (hK2 _ hrd _ _))
    have loop : ∀ (n x : Nat) (y5 ra : Int32), n = T.1 - x → a ≤ x → x ≤ T.1 → (∀ j, a ≤ j → j < x → isDg T j = true) → y5 = iI (nvF T a (x - a)) → ra = iI (x : Int) →
        AW l 30 6 0 0 8 none Post 47 [some (.ref 0), some (.int (iI (g : Int))), some (.int (iI b)), some (.int (iI (i : Int))), some (.int (iI (a : Int))), some (.int y5)] [] (wRd tbx (iI (T.1 : Int)) f s t nu ra (iI 0) rt) 0 0 := by
      intro n
      induction n using Nat.strongRecOn with
      | ind n ih =>
        intro x y5 ra hn hx1 hx2 hd h5 hra
        have hv := nvF_rng (T := T) (s := a) (k := x - a) (fun j h1 h2 => hd j h1 (by omega))
        have hr := tb_rng T x
        have done : isDg T x = false → AW l 30 6 0 0 8 none Post 133 [some (.ref 0), some (.int (iI (g : Int))), some (.int (iI b)), some (.int (iI (i : Int))), some (.int (iI (a : Int))), some (.int y5)] [] (wRd tbx (iI (T.1 : Int)) f s t nu ra (iI 0) rt) 0 0 := by
          intro hx
          have e : de T a = x := run_eq hx1 (by omega) hd hx
          exact fin x _ y5 ra e hx1 rfl (by rw [h5, nv, e]) hra hx2
        subst h5; subst hra
        refine AW.go (bs := b_Reader_readNumber) [47, 133] 60 t_Reader_readNumber ?_
        refine And.intro (fun h => ?_) (fun h => ?_)
        · rw [zc_ge (by omega) (by omega) (by omega) (by omega)] at h
          exact done (isDg_out _ (by omega))
        rw [zc_ge (by omega) (by omega) (by omega) (by omega)] at h
        refine ⟨_, v_byteAt l, by decide, tbx, T.2, T.1, (x : Int), rfl, rfl, h4, ⟨by omega, by omega⟩, hB, ?_⟩
        show _ ∧ _
        rw [show byI T.1 T.2 (x : Int) = tbt T x from rfl]
        refine And.intro (fun h2 => ?_) (fun h2 => ?_)
        · rw [zn_i, zc_lt (by omega) (by omega) (by omega) (by omega)] at h2
          exact done (decide_eq_false (fun q => by omega))
        rw [zn_i, zc_lt (by omega) (by omega) (by omega) (by omega)] at h2
        refine ⟨_, v_byteAt l, by decide, tbx, T.2, T.1, (x : Int), rfl, rfl, h4, ⟨by omega, by omega⟩, hB, ?_⟩
        show _ ∧ _
        rw [show byI T.1 T.2 (x : Int) = tbt T x from rfl]
        refine And.intro (fun h3 => ?_) (fun h3 => ?_)
        · rw [zn_i, zc_gt (by omega) (by omega) (by omega) (by omega)] at h3
          exact done (decide_eq_false (fun q => by omega))
        rw [zn_i, zc_gt (by omega) (by omega) (by omega) (by omega)] at h3
        refine ⟨_, v_byteAt l, by decide, tbx, T.2, T.1, (x : Int), rfl, rfl, h4, ⟨by omega, by omega⟩, hB, ?_⟩
        have ev : (if z_nn 10 0 * iI (nvF T a (x - a)) + iI (tbt T x) - z_nn 48 0 < nI 100000 then z_nn 10 0 * iI (nvF T a (x - a)) + iI (tbt T x) - z_nn 48 0 else nI 100000) = iI (nvF T a (x + 1 - a)) := by
          rw [zn_i, zn_i, iI_nI, iI_mul, iI_add, iI_sub, min_iI (by omega) (by omega) (by omega) (by omega), show x + 1 - a = (x - a) + 1 by omega, nvF, show a + (x - a) = x by omega]; rfl
        show AW _ _ _ _ _ _ _ _ _ _ _ _ _ _
        rw [show byI T.1 T.2 (x : Int) = tbt T x from rfl, ev]
        refine ih _ (by omega) (x + 1) _ _ rfl (by omega) (by omega) (fun j h6 h7 => ?_) rfl (zn_inc _)
        by_cases q : j = x
        · subst q; exact decide_eq_true ⟨by omega, by omega⟩
        · exact hd j h6 (by omega)
    refine AW.go (bs := b_Reader_readNumber) [47] 60 t_Reader_readNumber ?_
    exact loop _ a _ _ rfl (Nat.le_refl _) ha (fun j h1 h2 => by omega) (by rw [Nat.sub_self]; rfl) rfl
  refine AW.go (bs := b_Reader_readNumber) [44] 60 t_Reader_readNumber ?_
  refine And.intro (fun h => ?_) (fun h => ?_)
  · rw [zn_i, zc_ne (by omega) (by omega) (by omega) (by omega)] at h
    exact numpart (fun q => h (by have := q.1; omega))
  rw [zn_i, zc_ne (by omega) (by omega) (by omega) (by omega), Classical.not_not] at h
  refine ⟨_, v_wlen l, by decide, tbx, f, s, t, nu, _, rt, T, a, rfl, rfl, hT, ha, ?_⟩
  refine ⟨_, v_rword l, by decide, tbx, f, s, t, nu, _, rt, T, a, 14, wl T a, rfl, rfl, hT, ha, by decide, hwl, ?_⟩
  show _ ∧ _
  rw [isWL_eq]
  refine And.intro (fun h2 => ?_) (fun h2 => ?_)
  · rw [zc_beq] at h2
    exact numpart (fun q => by rw [h2] at q; cases q.2)
  · rw [zc_beq, Bool.not_eq_false] at h2
    have hrd : rdNum T (D.1 4) g b a = .inr (-2, a + 3) := by unfold rdNum; rw [hsk, if_pos ⟨by omega, h2⟩]
    have e3 : iI (a : Int) + z_nn 3 0 = iI ((a + 3 : Nat) : Int) := by rw [zn_i, iI_add]; rfl
    refine And.intro (zN_in hi (by omega)) ?_
    have hk := hK1 _ _ hrd
    rw [← e3] at hk
    show Post _ _
    rw [zN_cl (by omega)]
    exact hP1 _ _ hk
set_option maxRecDepth 20000 in
theorem RS.row {f s t : Nat → Int32} {M : Od} {d : Nat} {r r' : Nat → Int} (h : RS f s t (oAdd M d r)) (e : ∀ c, c < oW d → r' c = r c) : RS f s t (oAdd M d r') := by
  refine ⟨h.1, fun x k c hx hk hc => ?_, h.2.2⟩
  rw [h.2.1 x k c hx hk hc]
  congr 1
  show (if x = d ∧ k = M.1 d then r c else M.2.1 x k c) = (if x = d ∧ k = M.1 d then r' c else M.2.1 x k c)
  split
  · next q => rw [e c (by rw [← q.1]; exact hc)]
  · rfl
set_option maxRecDepth 20000 in
theorem told_or : ∀ m : Nat, m < 8 → ∀ w : Nat, w < 3 → iI (m : Int) ||| (z_nn 1 0 <<< (iI (w : Int) &&& 31)) = iI ((m ||| 2 ^ w : Nat) : Int) := by decide +kernel
set_option maxRecDepth 20000 in
theorem sgn_len : ∀ p, p < 9 → p ≠ 5 → (p < 6 → sln (sgn p) = oW p) ∧ (6 ≤ p → sln (sgn p) = 1) ∧ sln (sgn p) ≤ 5 ∧ sgn p < 19 ∧ oW p ≤ 5 := by decide +kernel
def sp_rtake : Sp := (2, 0, 0, pRd, fun as σ K => ∃ (tbx f s t nu : Nat → Int32) (tz ra rf : Int32) (D : Od) (told p : Nat) (vs : List Int), as = [.ref 0, .int (iI (p : Int))] ∧ σ = (wRd tbx tz f s t nu ra rf (iI (told : Int))) ∧ RS f s t D ∧ p < 9 ∧ p ≠ 5 ∧ told < 8 ∧ fullP D told p = false ∧ vs.length = sln (sgn p) ∧ (∀ c, c < vs.length → nu c = iI (vs.getD c 0)) ∧ (6 ≤ p → 0 ≤ vs.getD 0 0) ∧
  ∀ f s t, RS f s t (takeP D p vs) → K none (some (wRd tbx tz f s t nu ra rf (iI ((toldP told p : Nat) : Int)))))
set_option maxRecDepth 20000 in
theorem v_rtake (l : Launch) : z_V l 31 sp_rtake := by
  refine z_V.ofP (by decide +kernel) ?_
  rintro as σ K Post ⟨tbx, f, s, t, nu, tz, ra, rf, D, told, p, vs, rfl, rfl, hR, hp, h5, ht, hf, hl, hv, h0, hK⟩ hP1 hP0
  obtain ⟨g1, g2, g3, g4, g5⟩ := sgn_len p hp h5
  unfold takeP toldP at hK
  unfold fullP at hf
  refine AW.go (bs := b_Reader_take) [] 60 t_Reader_take ?_
  refine And.symm (And.intro (fun h => ?_) (fun h => ?_))
  · rw [zn_i, zc_ge (by omega) (by omega) (by omega) (by omega)] at h
    have hp6 : p < 6 := by omega
    simp only [if_pos hp6] at hK hf
    have hn : D.1 p < oX p := by simpa using hf
    refine And.intro (by first | decide | exact zn_in (by decide) (by omega)) ?_
    refine And.intro (by first | decide | exact zn_in (by decide) (by omega)) ?_
    refine And.intro (by first | decide | exact zn_in (by decide) (by omega)) ?_
    refine And.intro (by first | decide | exact zn_in (by decide) (by omega)) ?_
    refine And.intro (by first | decide | exact zn_in (by decide) (by omega)) ?_
    obtain ⟨x0, _, e0⟩ := iI_ex (nu 0)
    obtain ⟨x1, _, e1⟩ := iI_ex (nu 1)
    obtain ⟨x2, _, e2⟩ := iI_ex (nu 2)
    obtain ⟨x3, _, e3⟩ := iI_ex (nu 3)
    obtain ⟨x4, _, e4⟩ := iI_ex (nu 4)
    show ∃ sp : Sp, _
    rw [zn_cl (t := 0) (by omega), zn_cl (t := 1) (by omega), zn_cl (t := 2) (by omega), zn_cl (t := 3) (by omega), zn_cl (t := 4) (by omega), e0, e1, e2, e3, e4]
    refine ⟨_, v_addRow l, by decide, f, s, t, rfl, D, p, _, _, _, _, _, rfl, hR, by omega, hn, fun f' h1 h2 => ?_⟩
    refine hP1 _ _ (hK _ _ _ (hR.add (by omega) hn (fun c hc => ?_) (fun y hy => h2 y (fun i _ hi => hy i hi))))
    rw [h1 c (by omega) hc, ← hv c (by omega)]
    have hc5 : c = 0 ∨ c = 1 ∨ c = 2 ∨ c = 3 ∨ c = 4 := by omega
    rcases hc5 with rfl | rfl | rfl | rfl | rfl
    · rw [e0]; rfl
    · rw [e1]; rfl
    · rw [e2]; rfl
    · rw [e3]; rfl
    · rw [e4]; rfl
  · rw [zn_i, zc_ge (by omega) (by omega) (by omega) (by omega)] at h
    have hp6 : ¬ p < 6 := by omega
    simp only [if_neg hp6] at hK
    have e6 : iI (p : Int) - z_nn 6 0 = iI ((p - 6 : Nat) : Int) := by rw [zn_i, iI_sub]; congr 1; omega
    have hz := h0 (by omega)
    have ez : nu 0 = iI (((vs.getD 0 0).toNat : Nat) : Int) := by rw [hv 0 (by omega)]; congr 1; omega
    refine And.intro (by first | decide | exact zn_in (by decide) (by omega)) ?_
    show _ ∧ _
    rw [e6]
    refine And.intro (zN_in (by omega) (by omega)) ?_
    show Post _ _
    rw [e6, told_or _ ht _ (by omega), zN_cl (by omega), zn_cl (t := 0) (by omega), ez]
    exact hP1 _ _ (hK _ _ _ (hR.set _ _))
set_option maxRecDepth 20000 in
theorem sgs_sgn : ∀ p, p < 9 → ∀ k, k < 5 → k < sln (sgn p) → sgs (chr (sgn p) k) := by
  have key : ∀ p, p < 9 → ∀ k, k < 5 → (decide (k < sln (sgn p)) = true → [117, 112, 110, 116, 102, 100, 108, 118, 119, 99, 105].elem (chr (sgn p) k) = true) := by decide +kernel
  intro p hp k hk h
  have := List.elem_iff.mp (key p hp k hk (decide_eq_true h))
  unfold sgs
  simpa using this
set_option maxRecDepth 20000 in
theorem rnums_head (l : Launch) {Post : Option Value → List AE → Prop} {tbx f s t nu : Nat → Int32} {tz ra rt : Int32} {v1 v2 : Option Value} {p k F : Nat} (hp : p < 9) (h5 : p ≠ 5) (hk : k ≤ sln (sgn p)) (hF : F ≤ 100000) (h1 : (k = sln (sgn p) ∨ F ≠ 0) → AW l 23 7 0 0 8 none Post 124 [some (.ref 0), v1, v2, some (.ref (sgn p + 2000)), some (.int (iI (k : Int)))] [] (wRd tbx tz f s t nu ra (iI (F : Int)) rt) 0 0) (h2 : k < sln (sgn p) → F = 0 → AW l 23 7 0 0 8 none Post 84 [some (.ref 0), v1, v2, some (.ref (sgn p + 2000)), some (.int (iI (k : Int)))] [] (wRd tbx tz f s t nu ra (iI (F : Int)) rt) 0 0) :
    AW l 23 7 0 0 8 none Post 62 [some (.ref 0), v1, v2, some (.ref (sgn p + 2000)), some (.int (iI (k : Int)))] [] (wRd tbx tz f s t nu ra (iI (F : Int)) rt) 0 0 := by
  obtain ⟨g1, g2, g3, g4, g5⟩ := sgn_len p hp h5
  rcases d9 hp with rfl | rfl | rfl | rfl | rfl | rfl | rfl | rfl | rfl <;>
  · refine AW.go (bs := b_Reader_readPart) [84, 124] 60 t_Reader_readPart ?_
    refine ⟨_, v_slen l, by decide, _, rfl, by decide, rfl, ?_⟩
    refine And.intro (fun h => ?_) (fun h => ?_)
    · rw [zc_ge (by omega) (by omega) (by omega) (by omega)] at h
      exact h1 (Or.inl (by omega))
    rw [zc_ge (by omega) (by omega) (by omega) (by omega)] at h
    refine And.intro (fun h3 => ?_) (fun _ => ?_)
    · exfalso; rw [zn_i, zc_ge (by omega) (by omega) (by omega) (by omega)] at h3; omega
    refine And.intro (fun h3 => ?_) (fun h3 => ?_)
    · rw [zc_ne0 (by omega) (by omega)] at h3
      exact h1 (Or.inr (by omega))
    · rw [zc_ne0 (by omega) (by omega), Classical.not_not] at h3
      exact h2 (by omega) (by omega)
set_option maxRecDepth 20000 in
theorem rnums_body (l : Launch) {Post : Option Value → List AE → Prop} {tbx f s t nu : Nat → Int32} {rt : Int32} {v1 v2 : Option Value} {T : Tp} {a p k : Nat} {D : Od} {b : Int} (hT : TB T tbx) (ha : a ≤ T.1) (hR : RS f s t D) (hp : p < 9) (h5 : p ≠ 5) (hk : k < sln (sgn p)) (hb : ir b) (hb1 : k = 0 → b = -1) (hb2 : k ≠ 0 → nu (k - 1) = iI b)
    (h1 : ∀ v e, rdNum T (D.1 4) (chr (sgn p) k) b a = .inr (v, e) → AW l 23 7 0 0 8 none Post 62 [some (.ref 0), v1, v2, some (.ref (sgn p + 2000)), some (.int (iI (k : Int) + z_nn 1 0))] [] (wRd tbx (iI (T.1 : Int)) f s t (upd nu k (iI v)) (iI ((e : Nat) : Int)) (iI 0) rt) 0 0)
    (h2 : ∀ F : Nat, rdNum T (D.1 4) (chr (sgn p) k) b a = .inl F → ∀ nu ra, AW l 23 7 0 0 8 none Post 62 [some (.ref 0), v1, v2, some (.ref (sgn p + 2000)), some (.int (iI (k : Int) + z_nn 1 0))] [] (wRd tbx (iI (T.1 : Int)) f s t nu ra (iI (F : Int)) rt) 0 0) :
    AW l 23 7 0 0 8 none Post 84 [some (.ref 0), v1, v2, some (.ref (sgn p + 2000)), some (.int (iI (k : Int)))] [] (wRd tbx (iI (T.1 : Int)) f s t nu (iI (a : Int)) (iI 0) rt) 0 0 := by
  obtain ⟨g1, g2, g3, g4, g5⟩ := sgn_len p hp h5
  have hg := sgs_sgn p hp k (by omega) hk
  have hs := sk_rng ha
  have hss := sk_sk hT.1 ha
  have er : rdNum T (D.1 4) (chr (sgn p) k) b (sk T a) = rdNum T (D.1 4) (chr (sgn p) k) b a := by unfold rdNum rdN; rw [hss]
  have ek : k ≠ 0 → iI (k : Int) - z_nn 1 0 = iI ((k - 1 : Nat) : Int) := fun q => by rw [zn_i, iI_sub]; congr 1; omega
  rcases d9 hp with rfl | rfl | rfl | rfl | rfl | rfl | rfl | rfl | rfl <;>
  · refine AW.go (bs := b_Reader_readPart) [62] 60 t_Reader_readPart ?_
    refine ⟨_, v_skip l, by decide, tbx, f, s, t, nu, _, rt, T, a, rfl, rfl, hT, ha, ?_⟩
    refine ⟨_, v_char l, by decide, _, k, rfl, by decide, hk, rfl, ?_⟩
    refine And.symm (And.intro (fun h => ?_) (fun h => ?_))
    · rw [zc_ne0 (by omega) (by omega), Classical.not_not] at h
      refine ⟨_, v_rnum l, by decide, tbx, f, s, t, nu, rt, T, sk T a, D, chr _ k, k, -1, rfl, rfl, hT, hs.2, hss, hR, hg, ⟨by omega, by omega⟩, by omega, fun v e q => ?_, fun F q nu' ra' => ?_⟩
      · exact h1 v e (by rw [← er, hb1 (by omega)]; exact q)
      · exact h2 F (by rw [← er, hb1 (by omega)]; exact q) _ _
    · rw [zc_ne0 (by omega) (by omega)] at h
      show _ ∧ _
      rw [ek (by omega)]
      refine And.intro (zN_in (by omega) (by omega)) ?_
      show ∃ sp : Sp, _
      rw [zN_cl (by omega), hb2 (by omega)]
      refine ⟨_, v_rnum l, by decide, tbx, f, s, t, nu, rt, T, sk T a, D, chr _ k, k, b, rfl, rfl, hT, hs.2, hss, hR, hg, hb, by omega, fun v e q => ?_, fun F q nu' ra' => ?_⟩
      · exact h1 v e (by rw [← er]; exact q)
      · exact h2 F (by rw [← er]; exact q) _ _
