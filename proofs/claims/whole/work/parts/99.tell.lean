/-! the tape is told -/
def sp_rsemi : Sp := (2, 0, 0, pRd, fun as σ K => ∃ (tbx f s t nu : Nat → Int32) (rf rt : Int32) (T : Tp) (a : Nat), as = [.ref 0] ∧ σ = (wRd tbx (iI (T.1 : Int)) f s t nu (iI (a : Int)) rf rt) ∧ TB T tbx ∧ a ≤ T.1 ∧ (T.1 ≤ a → K (some (.int (iI 0))) (some (wRd tbx (iI (T.1 : Int)) f s t nu (iI (a : Int)) rf rt))) ∧ (a < T.1 → tbt T a ≠ 59 → K (some (.int (iI 0))) (some (wRd tbx (iI (T.1 : Int)) f s t nu (iI (a : Int)) (iI ((8 * a + 1 : Nat) : Int)) rt))) ∧ (a < T.1 → tbt T a = 59 → K (some (.int (iI 1))) (some (wRd tbx (iI (T.1 : Int)) f s t nu (iI ((sk T (a + 1) : Nat) : Int)) rf rt))))
set_option maxRecDepth 20000 in
theorem v_rsemi (l : Launch) : z_V l 22 sp_rsemi := by
  refine z_V.ofP (by decide +kernel) ?_
  rintro as σ K Post ⟨tbx, f, s, t, nu, rf, rt, T, a, rfl, rfl, hT, ha, k1, k2, k3⟩ hP1 hP0
  obtain ⟨h4, hB⟩ := id hT
  have hr := tb_rng T a
  refine AW.go (bs := b_Reader_readSemicolon) [] 60 t_Reader_readSemicolon ?_
  refine And.symm (And.intro (fun h => ?_) (fun h => ?_))
  · rw [zc_lt (by omega) (by omega) (by omega) (by omega)] at h
    exact And.intro (Or.inl rfl) (hP1 _ _ (k1 (by omega)))
  rw [zc_lt (by omega) (by omega) (by omega) (by omega)] at h
  refine ⟨_, v_byteAt l, by decide, tbx, T.2, T.1, (a : Int), rfl, rfl, h4, ⟨by omega, by omega⟩, hB, ?_⟩
  show _ ∧ _
  rw [show byI T.1 T.2 (a : Int) = tbt T a from rfl]
  refine And.symm (And.intro (fun h2 => ?_) (fun h2 => ?_))
  · rw [zn_i, zc_eq (by omega) (by omega) (by omega) (by omega)] at h2
    refine ⟨_, v_rfail l, by decide, tbx, f, s, t, nu, _, _, _, _, a, 1, rfl, rfl, ?_⟩
    exact And.intro (Or.inl rfl) (hP1 _ _ (k2 (by omega) h2))
  · rw [zn_i, zc_eq (by omega) (by omega) (by omega) (by omega)] at h2
    show ∃ sp : Sp, _
    rw [zn_inc]
    refine ⟨_, v_skip l, by decide, tbx, f, s, t, nu, _, _, T, a + 1, rfl, rfl, hT, by omega, ?_⟩
    exact And.intro (Or.inr rfl) (hP1 _ _ (k3 (by omega) h2))
set_option maxRecDepth 20000 in
theorem clear_RS {f s t : Nat → Int32} (h1 : ∀ d, d < 6 → s d = iI 0) (h2 : ∀ w, w < 3 → t w = iI (([0, 1, 2].getD w 0 : Nat) : Int)) : RS f s t od0 :=
  ⟨fun d hd => ⟨h1 d hd, Nat.zero_le _⟩, fun d k c _ hk _ => absurd hk (Nat.not_lt_zero k), fun w hw => h2 w hw⟩
def sp_read : Sp := (8, 0, 0, pRd, fun as σ K => ∃ (tbx f s t nu : Nat → Int32) (ra rf rt : Int32) (T : Tp), as = [.ref 0] ∧ σ = (wRd tbx (iI (T.1 : Int)) f s t nu ra rf rt) ∧ TB T tbx ∧ (∀ D, rdF T = .inr D → ∀ f s t nu ra rf rt, RS f s t D → K (some (.int (iI 0))) (some (wRd tbx (iI (T.1 : Int)) f s t nu ra rf rt))) ∧ (∀ F : Nat, rdF T = .inl F → F ≠ 0 → F ≤ 4000 → ∀ f s t nu ra rf rt, K (some (.int (iI (F : Int)))) (some (wRd tbx (iI (T.1 : Int)) f s t nu ra rf rt))))
set_option maxRecDepth 20000 in
theorem v_read (l : Launch) : z_V l 19 sp_read := by
  refine z_V.ofP (by decide +kernel) ?_
  rintro as σ K Post ⟨tbx, f, s, t, nu, ra, rf, rt, T, rfl, rfl, hT, hS, hF⟩ hP1 hP0
  have h400 := hT.1
  have ret : ∀ (F : Nat) (x2 : Int32) (f s t nu : Nat → Int32) (ra rt : Int32), Post (some (.int (iI (F : Int)))) (wRd tbx (iI (T.1 : Int)) f s t nu ra (iI (F : Int)) rt) → AW l 19 8 0 0 8 none Post 48 [some (.ref 0), some (.int (z_nn 0 0)), some (.int x2)] [] (wRd tbx (iI (T.1 : Int)) f s t nu ra (iI (F : Int)) rt) 0 0 := by
    intro F x2 f s t nu ra rt hp
    refine AW.go (bs := b_Reader_read) [] 60 t_Reader_read ?_
    refine And.intro (fun _ => ?_) (fun q => absurd rfl q)
    exact hp
  have loop : ∀ (k parts a told : Nat) (D : Od) (x2 : Int32) (f s t nu : Nat → Int32), parts + k = 401 → 2 * parts ≤ a → a ≤ T.1 → told < 8 → OKM D → RS f s t D → x2 = iI (parts : Int) →
      (∀ D', rdAll T k D told a = .inr D' → ∀ f s t nu ra rf rt, RS f s t D' → Post (some (.int (iI 0))) (wRd tbx (iI (T.1 : Int)) f s t nu ra rf rt)) → (∀ F : Nat, rdAll T k D told a = .inl F → F ≠ 0 → F ≤ 4000 → ∀ f s t nu ra rf rt, Post (some (.int (iI (F : Int)))) (wRd tbx (iI (T.1 : Int)) f s t nu ra rf rt)) →
      AW l 19 8 0 0 8 none Post 48 [some (.ref 0), some (.int (z_nn 1 0)), some (.int x2)] [] (wRd tbx (iI (T.1 : Int)) f s t nu (iI (a : Int)) (iI 0) (iI (told : Int))) 0 0 := by
    intro k
    induction k with
    | zero => intro parts a told D x2 f s t nu hk hpa ha; omega
    | succ k ih =>
      intro parts a told D x2 f s t nu hk hpa ha ht hO hR hx hS hF
      subst hx
      rw [rdAll] at hS hF
      refine AW.go (bs := b_Reader_read) [48] 60 t_Reader_read ?_
      refine And.intro (fun q => absurd q (by first | decide | (rw [zd_iff]; decide))) (fun _ => ?_)
      refine And.intro (fun q => ?_) (fun _ => ?_)
      · exfalso; rw [zn_i, zc_ge (by omega) (by omega) (by omega) (by omega)] at q; omega
      refine ⟨_, v_rpart l, by decide, tbx, f, s, t, nu, T, a, D, told, rfl, rfl, hT, ha, hR, ht, fun D' told' e q f s t nu hR' => ?_, fun F q f s t nu ra rt => ?_⟩
      · obtain ⟨c1, c2, c3, c4⟩ := rdPart_inr hO ha q
        rw [q] at hS hF
        simp only [] at hS hF
        refine And.intro (fun w => absurd rfl w) (fun _ => ?_)
        refine ⟨_, v_rsemi l, by decide, tbx, f, s, t, nu, _, _, T, e, rfl, rfl, hT, c3, fun w => ?_, fun w w2 => ?_, fun w w2 => ?_⟩
        · rw [if_pos w] at hS
          refine And.intro (fun _ => ?_) (fun w => absurd rfl w)
          exact ret 0 _ _ _ _ _ _ _ (hS _ rfl _ _ _ _ _ _ _ hR')
        · rw [if_neg (by omega), if_pos w2] at hF
          refine And.intro (fun _ => ?_) (fun w => absurd rfl w)
          exact ret _ _ _ _ _ _ _ _ (hF _ rfl (by omega) (by omega) _ _ _ _ _ _ _)
        · rw [if_neg (by omega), if_neg (fun r => r w2)] at hS hF
          refine And.intro (fun r => absurd r (by first | decide | (rw [zd_iff]; decide))) (fun _ => ?_)
          have hs := sk_rng (show e + 1 ≤ T.1 by omega)
          exact ih (parts + 1) (sk T (e + 1)) told' D' _ f s t nu (by omega) (by omega) hs.2 (c4 ht) c1 hR' (zn_inc _) hS hF
      · rw [q] at hF
        simp only [] at hF
        have hb := rdPart_inl h400 ha q
        refine And.intro (fun _ => ?_) (fun w => ?_)
        · exact ret _ _ _ _ _ _ _ _ (hF _ rfl hb.1 hb.2 _ _ _ _ _ _ _)
        · rw [zc_ne0 (by omega) (by omega), Classical.not_not] at w; omega
  have hs0 := sk_rng (Nat.zero_le T.1)
  unfold rdF at hS hF
  refine AW.go (bs := b_Reader_read) [48] 60 t_Reader_read ?_
  refine ⟨_, v_clear l, by decide, f, s, t, rfl, rfl, fun s' t' e1 e2 => ?_⟩
  refine ⟨_, v_skip l, by decide, tbx, f, s', t', nu, _, _, T, 0, rfl, rfl, hT, Nat.zero_le _, ?_⟩
  have hR := clear_RS (f := f) e1 e2
  refine And.intro (fun h => ?_) (fun h => ?_)
  · rw [zc_ge (by omega) (by omega) (by omega) (by omega)] at h
    rw [if_pos (by omega)] at hS
    exact ret 0 _ _ _ _ _ _ _ (hP1 _ _ (hS _ rfl _ _ _ _ _ _ _ hR))
  · rw [zc_ge (by omega) (by omega) (by omega) (by omega)] at h
    rw [if_neg (by omega)] at hS hF
    exact loop 401 0 (sk T 0) 0 od0 _ f s' t' nu rfl (by omega) hs0.2 (by omega) od0_ok hR rfl (fun D' q f s t nu ra rf rt w => hP1 _ _ (hS D' q _ _ _ _ _ _ _ w)) (fun F q w1 w2 f s t nu ra rf rt => hP1 _ _ (hF F q w1 w2 _ _ _ _ _ _ _))
set_option maxRecDepth 20000 in
theorem v_tell (l : Launch) : z_V l 80 (sp0S 40 f_tell) := by
  refine z_V.ofP (by decide +kernel) ?_
  rintro as σ K Post ⟨S, ⟨hOS, f, s, t, f1, s1, t1, f2, s2, t2, tb, f3, s3, t3, nu, ln, sp, ls, g, ta, pl, pf, ps, pt, fi, hz, ks, tz, ra, rf, rt, la, lb, lc, mp, mv, mk, mo, my, mw, ma, ml, ak, dy, br, ad, dp, lm, rs, len, rfl, hAR⟩, rfl, hK⟩ hP1 hP0
  obtain ⟨hR, ⟨fq, rfl, hPR⟩, rfl, rfl, a5, a6, rfl, a8⟩ := id hAR
  have hO := hOS.1
  have hx4 := hO.2.2.2.2.2.2.2.2.2 4 (by omega)
  rw [x_4] at hx4
  have hx5 := hO.2.2.2.2.2.2.2.2.2 5 (by omega)
  rw [x_5] at hx5
  unfold f_tell at hK
  refine AW.go (bs := b_Appr_tell) [] 60 t_Appr_tell ?_
  refine ⟨_, v_read l, by decide, tb, f3, s3, t3, nu, ra, rf, rt, S.2.2.2, rfl, rfl, ⟨hOS.2.2.2.2.2, a8⟩, fun D hD f3 s3 t3 nu ra rf rt hR3 => ?_, fun F hF b1 b2 f3 s3 t3 nu ra rf rt => ?_⟩
  · rw [hD] at hK
    have hOD := rdF_ok hD
    refine And.intro (fun _ => ?_) (fun w => absurd rfl w)
    refine ⟨_, v_copyFrom l, by decide, f, s, t, f3, s3, t3, D, rfl, rfl, hR3, fun f' s' t' h' => ?_⟩
    refine ⟨_, v_forget l, by decide, pf, ps, pt, _, _, rfl, rfl, ?_⟩
    refine And.intro (zn_in (by omega) (by omega)) ?_
    show Post _ _
    rw [zn_cl (by omega), h'.size 4 (by omega)]
    exact hP1 _ _ (hK _ (isA.mk ⟨hOD, fun _ h => by simp at h, by simp, hOS.2.2.2.1, hOS.2.2.2.2.1, Nat.zero_le _⟩ ⟨h', ⟨fq, rfl, PR.nil _ _ _ hPR.1⟩, rfl, rfl, a5, a6, rfl, fun i h => absurd h (Nat.not_lt_zero i)⟩))
  · rw [hF] at hK
    refine And.symm (And.intro (fun _ => ?_) (fun w => ?_))
    · show Post _ _
      rw [zn_m, iI_sub]
      exact hP1 _ _ (hK _ (isA.mk ⟨hOS.1, hOS.2.1, hOS.2.2.1, hOS.2.2.2.1, hOS.2.2.2.2.1, Nat.zero_le _⟩ ⟨hR, ⟨fq, rfl, hPR⟩, rfl, rfl, a5, a6, rfl, fun i h => absurd h (Nat.not_lt_zero i)⟩))
    · have w : iI (F : Int) = 0 := w
      rw [iI_0, iI_inj (by omega) (by omega) (by omega) (by omega)] at w
      omega
