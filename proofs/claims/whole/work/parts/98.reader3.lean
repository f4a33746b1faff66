/-! the reader: parts -/
set_option maxRecDepth 20000 in
theorem rdN_inl {T : Tp} {ok : Int → Bool} {a F : Nat} (hn : T.1 ≤ 400) (ha : a ≤ T.1) (h : rdN T ok a = .inl F) : F ≠ 0 ∧ F ≤ 4000 := by
  have h0 := sk_rng ha
  unfold rdN at h
  split at h
  · injection h with h; omega
  · split at h
    · cases h
    · injection h with h; omega
set_option maxRecDepth 20000 in
theorem rdNum_inl {T : Tp} {P g a F : Nat} {b : Int} (hn : T.1 ≤ 400) (ha : a ≤ T.1) (h : rdNum T P g b a = .inl F) : F ≠ 0 ∧ F ≤ 4000 := by
  unfold rdNum at h
  split at h
  · cases h
  · exact rdN_inl hn ha h
set_option maxRecDepth 20000 in
theorem rdNums_inl {T : Tp} {P : Nat} (hn : T.1 ≤ 400) : ∀ {gs : List Nat} {b : Int} {a F : Nat}, a ≤ T.1 → rdNums T P gs b a = .inl F → F ≠ 0 ∧ F ≤ 4000
  | [], b, a, F, ha, h => by rw [rdNums] at h; cases h
  | g :: gs, b, a, F, ha, h => by
    rw [rdNums] at h
    split at h
    · next f h1 => injection h with h; subst h; exact rdNum_inl hn ha h1
    · next v e h1 =>
      split at h
      · next f h2 => injection h with h; subst h; exact rdNums_inl hn (rdNum_inr ha h1).2.2 h2
      · cases h
set_option maxRecDepth 20000 in
theorem rdPart_inl {T : Tp} {D : Od} {told a F : Nat} (hn : T.1 ≤ 400) (ha : a ≤ T.1) (h : rdPart T D told a = .inl F) : F ≠ 0 ∧ F ≤ 4000 := by
  unfold rdPart at h
  split at h
  · injection h with h; omega
  · split at h
    · injection h with h; omega
    · split at h
      · next f h1 =>
        injection h with h; subst h
        have := we_rng ha
        exact rdNums_inl hn (by unfold wl; omega) h1
      · cases h
set_option maxRecDepth 20000 in
theorem drop_chr {i k : Nat} (h : k < sln i) : (strL i).drop k = chr i k :: (strL i).drop (k + 1) := by
  have h' : k < (strL i).length := h
  rw [List.drop_eq_getElem_cons h']
  congr 1
  show _ = (strL i).getD k 0
  rw [List.getD_eq_getElem?_getD, List.getElem?_eq_getElem h']
  rfl
set_option maxRecDepth 20000 in
theorem chk_len {P : Nat} : ∀ {gs : List Nat} {b : Int} {vs : List Int}, chk P gs b vs → vs.length = gs.length
  | [], b, vs, h => by have h : vs = [] := h; rw [h]; rfl
  | g :: gs, b, vs, h => by
    obtain ⟨v, ws, rfl, _, h2⟩ := h
    rw [List.length_cons, List.length_cons, chk_len h2]
set_option maxRecDepth 20000 in
theorem chk_set {P p : Nat} {vs : List Int} (h : chk P (strL (sgn p)) (-1) vs) (hp : p < 9) (h6 : 6 ≤ p) : 0 ≤ vs.getD 0 0 := by
  have : p = 6 ∨ p = 7 ∨ p = 8 := by omega
  rcases this with rfl | rfl | rfl <;>
  · obtain ⟨v, ws, rfl, c, _⟩ := h
    show 0 ≤ v
    rcases c with c | c
    · exact absurd c.1 (by first | decide | (rw [zd_iff]; decide))
    · exact c.2
def nuOK (nu : Nat → Int32) (vs : List Int) : Prop := ∀ c, c < vs.length → nu c = iI (vs.getD c 0)
set_option maxRecDepth 20000 in
theorem nuOK.snoc {nu : Nat → Int32} {vs : List Int} (h : nuOK nu vs) (v : Int) : nuOK (upd nu vs.length (iI v)) (vs ++ [v]) := by
  intro c hc
  rw [List.length_append] at hc
  have hc : c < vs.length + 1 := hc
  unfold upd
  by_cases e : c = vs.length
  · rw [if_pos e, e, List.getD_eq_getElem?_getD, List.getElem?_concat_length]; rfl
  · rw [if_neg e, h c (by omega), List.getD_eq_getElem?_getD, List.getD_eq_getElem?_getD, List.getElem?_append_left (by omega)]
set_option maxRecDepth 20000 in
theorem rnums_loop (l : Launch) {Post : Option Value → List AE → Prop} {tbx f s t : Nat → Int32} {rt : Int32} {v1 v2 : Option Value} {T : Tp} {p : Nat} {D : Od} (hT : TB T tbx) (hR : RS f s t D) (hD : D.1 4 ≤ 12) (hp : p < 9) (h5 : p ≠ 5) : ∀ (n k a : Nat) (b : Int) (vs : List Int) (nu : Nat → Int32) (x4 : Int32), n = sln (sgn p) - k → k ≤ sln (sgn p) → a ≤ T.1 → vs.length = k → nuOK nu vs → ir b → (k = 0 → b = -1) → (k ≠ 0 → nu (k - 1) = iI b) → x4 = iI (k : Int) →
    (∀ ws e, rdNums T (D.1 4) ((strL (sgn p)).drop k) b a = .inr (ws, e) → ∀ nu x4, nuOK nu (vs ++ ws) → AW l 23 7 0 0 8 none Post 124 [some (.ref 0), v1, v2, some (.ref (sgn p + 2000)), some (.int x4)] [] (wRd tbx (iI (T.1 : Int)) f s t nu (iI ((e : Nat) : Int)) (iI 0) rt) 0 0) →
    (∀ F : Nat, rdNums T (D.1 4) ((strL (sgn p)).drop k) b a = .inl F → ∀ nu ra x4, AW l 23 7 0 0 8 none Post 124 [some (.ref 0), v1, v2, some (.ref (sgn p + 2000)), some (.int x4)] [] (wRd tbx (iI (T.1 : Int)) f s t nu ra (iI (F : Int)) rt) 0 0) →
    AW l 23 7 0 0 8 none Post 62 [some (.ref 0), v1, v2, some (.ref (sgn p + 2000)), some (.int x4)] [] (wRd tbx (iI (T.1 : Int)) f s t nu (iI (a : Int)) (iI 0) rt) 0 0 := by
  obtain ⟨g1, g2, g3, g4, g5⟩ := sgn_len p hp h5
  intro n
  induction n with
  | zero =>
    intro k a b vs nu x4 hn hk ha hvl hnu hb hb1 hb2 hx4 hS hF
    subst hx4
    have ek : k = sln (sgn p) := by omega
    refine rnums_head l (F := 0) hp h5 hk (by omega) (fun _ => ?_) (fun q => by omega)
    refine hS [] a ?_ nu _ (by rw [List.append_nil]; exact hnu)
    rw [List.drop_of_length_le (by show sln (sgn p) ≤ k; omega)]; rfl
  | succ n ih =>
    intro k a b vs nu x4 hn hk ha hvl hnu hb hb1 hb2 hx4 hS hF
    subst hx4
    have hk' : k < sln (sgn p) := by omega
    rw [drop_chr hk'] at hS hF
    refine rnums_head l (F := 0) hp h5 hk (by omega) (fun q => by omega) (fun _ _ => ?_)
    refine rnums_body l hT ha hR hp h5 hk' hb hb1 hb2 (fun v e q => ?_) (fun F q nu' ra' => ?_)
    · obtain ⟨c1, c2, c3⟩ := rdNum_inr ha q
      have hv : ir v := by
        rcases c1 with c1 | c1
        · rw [c1.2]; exact ⟨by omega, by omega⟩
        · refine ⟨by omega, ?_⟩
          unfold rdNum at q
          split at q
          · injection q with q; injection q with q1 q2; omega
          · have := (rdN_inr q).1
            have := (nv_rng (T := T) (s := sk T a)).2
            omega
      refine ih (k + 1) e v (vs ++ [v]) _ _ (by omega) (by omega) c3 (by rw [List.length_append]; show vs.length + 1 = _; omega) ?_ hv (fun q => by omega) (fun _ => ?_) (zn_inc _) (fun ws e' hw nu'' x4 hn2 => ?_) (fun F hw nu'' ra'' x4 => ?_)
      · rw [← hvl]; exact hnu.snoc v
      · show upd nu k (iI v) (k + 1 - 1) = _
        unfold upd; rw [if_pos (by omega)]
      · refine hS (v :: ws) e' (by rw [rdNums, q]; simp only []; rw [hw]) nu'' x4 ?_
        rw [List.append_assoc] at hn2; exact hn2
      · exact hF F (by rw [rdNums, q]; simp only []; rw [hw]) nu'' ra'' x4
    · have hb9 := rdNum_inl hT.1 ha q
      have e1 := zn_inc k
      rw [e1]
      refine rnums_head l (k := k + 1) (F := F) hp h5 (by omega) (by omega) (fun _ => ?_) (fun _ q => by omega)
      exact hF F (by rw [rdNums, q]) nu' ra' _
def sp_rpart : Sp := (7, 0, 0, pRd, fun as σ K => ∃ (tbx f s t nu : Nat → Int32) (T : Tp) (a : Nat) (D : Od) (told : Nat), as = [.ref 0] ∧ σ = (wRd tbx (iI (T.1 : Int)) f s t nu (iI (a : Int)) (iI 0) (iI (told : Int))) ∧ TB T tbx ∧ a ≤ T.1 ∧ RS f s t D ∧ told < 8 ∧
  (∀ D' told' e, rdPart T D told a = .inr (D', told', e) → ∀ f s t nu, RS f s t D' → K none (some (wRd tbx (iI (T.1 : Int)) f s t nu (iI ((e : Nat) : Int)) (iI 0) (iI ((told' : Nat) : Int))))) ∧ (∀ F : Nat, rdPart T D told a = .inl F → ∀ f s t nu ra rt, K none (some (wRd tbx (iI (T.1 : Int)) f s t nu ra (iI (F : Int)) rt))))
set_option maxRecDepth 20000 in
theorem v_rpart (l : Launch) : z_V l 23 sp_rpart := by
  refine z_V.ofP (by decide +kernel) ?_
  rintro as σ K Post ⟨tbx, f, s, t, nu, T, a, D, told, rfl, rfl, hT, ha, hR, ht, hS, hF⟩ hP1 hP0
  have hw := we_rng ha
  have h400 := hT.1
  have hx4 := hR.max 4 (by omega)
  rw [x_4] at hx4
  have hwl : a + wl T a = we T a := by unfold wl; omega
  refine AW.go (bs := b_Reader_readPart) [62, 124] 60 t_Reader_readPart ?_
  refine ⟨_, v_wlen l, by decide, tbx, f, s, t, nu, _, _, T, a, rfl, rfl, hT, ha, ?_⟩
  refine ⟨_, v_partNamed l, by decide, tbx, f, s, t, nu, _, _, T, a, rfl, rfl, hT, ha, ?_⟩
  unfold rdPart at hS hF
  cases hp : partAt T a with
  | none =>
    rw [hp] at hS hF
    refine And.symm (And.intro (fun _ => ?_) (fun h => absurd rfl h))
    refine ⟨_, v_rfail l, by decide, tbx, f, s, t, nu, _, _, _, _, a, 1, rfl, rfl, ?_⟩
    exact hP1 _ _ (hF _ rfl _ _ _ _ _ _)
  | some p =>
    rw [hp] at hS hF
    simp only [] at hS hF
    obtain ⟨p1, p2, p3⟩ := partAt_spec hp
    have h5 := partAt_ne5 hp
    obtain ⟨g1, g2, g3, g4, g5⟩ := sgn_len p p1 h5
    refine And.intro (fun _ => ?_) (fun h => absurd (fun q => ?_) h)
    · refine ⟨_, v_isTold l, by decide, tbx, f, s, t, nu, _, _, _, D, told, p, rfl, rfl, hR, p1, ht, ?_⟩
      refine And.symm (And.intro (fun h => ?_) (fun h => ?_))
      · rw [zc_beq, Bool.not_eq_false] at h
        rw [if_pos h] at hF
        refine ⟨_, v_rfail l, by decide, tbx, f, s, t, nu, _, _, _, _, a, 3, rfl, rfl, ?_⟩
        exact hP1 _ _ (hF _ rfl _ _ _ _ _ _)
      rw [zc_beq] at h
      have hfull := h
      rw [if_neg (by rw [h]; decide)] at hS hF
      have ea : iI (a : Int) + iI ((wl T a : Nat) : Int) = iI ((a + wl T a : Nat) : Int) := by rw [iI_add]; rfl
      have tail : ∀ (e : Nat) (vs : List Int), rdNums T (D.1 4) (strL (sgn p)) (-1) (a + wl T a) = .inr (vs, e) → ∀ nu v1 v3 v4, nuOK nu vs → AW l 23 7 0 0 8 none Post 124 [some (.ref 0), v1, some (.int (iI (p : Int))), v3, v4] [] (wRd tbx (iI (T.1 : Int)) f s t nu (iI ((e : Nat) : Int)) (iI 0) (iI (told : Int))) 0 0 := by
        intro e vs hvs nu v1 v3 v4 hnu
        obtain ⟨c1, c2, c3⟩ := rdNums_inr (by omega) hvs
        rw [hvs] at hS
        refine AW.go (bs := b_Reader_readPart) [] 60 t_Reader_readPart ?_
        refine And.intro (fun q => absurd rfl q) (fun _ => ?_)
        refine ⟨_, v_skip l, by decide, tbx, f, s, t, nu, _, _, T, e, rfl, rfl, hT, c3, ?_⟩
        refine ⟨_, v_rtake l, by decide, tbx, f, s, t, nu, _, _, _, D, told, p, vs, rfl, rfl, hR, p1, h5, ht, hfull, ?_, hnu, fun q => ?_, fun f s t hR' => ?_⟩
        · exact chk_len c1
        · exact chk_set c1 p1 q
        · exact hP1 _ _ (hS _ _ _ rfl _ _ _ _ hR')
      have tailF : ∀ F : Nat, rdNums T (D.1 4) (strL (sgn p)) (-1) (a + wl T a) = .inl F → ∀ nu ra v1 v3 v4, AW l 23 7 0 0 8 none Post 124 [some (.ref 0), v1, some (.int (iI (p : Int))), v3, v4] [] (wRd tbx (iI (T.1 : Int)) f s t nu ra (iI (F : Int)) (iI (told : Int))) 0 0 := by
        intro F hvs nu ra v1 v3 v4
        have hb := rdNums_inl h400 (by omega) hvs
        rw [hvs] at hF
        refine AW.go (bs := b_Reader_readPart) [] 60 t_Reader_readPart ?_
        refine And.intro (fun _ => ?_) (fun q => ?_)
        · exact hP1 _ _ (hF _ rfl _ _ _ _ _ _)
        · rw [zc_ne0 (by omega) (by omega), Classical.not_not] at q; omega
      have go62 : ∀ (v1 : Option Value), AW l 23 7 0 0 8 none Post 62 [some (.ref 0), v1, some (.int (iI (p : Int))), some (.ref (sgn p + 2000)), some (.int (z_nn 0 0))] [] (wRd tbx (iI (T.1 : Int)) f s t nu (iI ((a + wl T a : Nat) : Int)) (iI 0) (iI (told : Int))) 0 0 := by
        intro v1
        refine rnums_loop l hT hR hx4 p1 h5 _ 0 (a + wl T a) (-1) [] nu _ rfl (by omega) (by omega) rfl (fun c hc => absurd hc (Nat.not_lt_zero c)) ⟨by omega, by omega⟩ (fun _ => rfl) (fun q => absurd rfl q) rfl (fun ws e q nu' x4 hn => ?_) (fun F q nu' ra' x4 => ?_)
        · rw [List.drop_zero] at q
          exact tail e ws q nu' _ _ _ hn
        · rw [List.drop_zero] at q
          exact tailF F q nu' ra' _ _ _
      have go62' := go62 (some (.int (iI ((wl T a : Nat) : Int))))
      rw [← ea] at go62'
      clear hS hF tail tailF go62 hp p3 hfull h
      rcases d9 p1 with rfl | rfl | rfl | rfl | rfl | rfl | rfl | rfl | rfl <;>
      · refine ⟨_, v_signs l, by decide, _, rfl, p1, rfl, ?_⟩
        exact go62'
    · have q : iI (p : Int) = iI (-1) := q
      rw [iI_inj (by omega) (by omega) (by omega) (by omega)] at q
      omega
