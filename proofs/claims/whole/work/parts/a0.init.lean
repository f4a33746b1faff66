/-! the constructors -/
def sp_stInit : Sp := (1, 3, 657, [(0, [])], fun as σ K => as = [.ref 0] ∧ σ = [.inr (.inr (6, [.null, .null, .null]))] ∧ ∀ f s t, RS f s t od0 → K none (some [.inr (.inr (6, [.ref 1, .ref 2, .ref 3])), .inl (0, 648, f), .inl (0, 6, s), .inl (0, 3, t)]))
set_option maxRecDepth 20000 in
theorem v_stInit (l : Launch) : z_V l 47 sp_stInit := by
  refine z_V.ofP (by decide +kernel) ?_
  rintro as σ K Post ⟨rfl, rfl, hK⟩ hP1 hP0
  refine AW.go (bs := b_State_init) [] 60 t_State_init ?_
  refine ⟨648, (iI_nI 648).symm, Nat.le_of_ble_eq_true rfl, Nat.le_of_ble_eq_true rfl, ?_⟩
  refine ⟨6, (iI_nI 6).symm, Nat.le_of_ble_eq_true rfl, Nat.le_of_ble_eq_true rfl, ?_⟩
  refine ⟨3, (iI_nI 3).symm, Nat.le_of_ble_eq_true rfl, Nat.le_of_ble_eq_true rfl, ?_⟩
  refine ⟨_, v_clear l, by decide, _, _, _, rfl, rfl, fun s t e1 e2 => ?_⟩
  exact hP1 _ _ (hK _ _ _ (clear_RS e1 e2))
def sp_tapeInit : Sp := (0, 1, 400, [(0, [])], fun as σ K => as = [.ref 0] ∧ σ = [.inr (.inr (7, [.null, .int 0]))] ∧ ∀ tb tz, tz = iI 0 → K none (some [.inr (.inr (7, [.ref 1, .int tz])), .inl (1, 400, tb)]))
set_option maxRecDepth 20000 in
theorem v_tapeInit (l : Launch) : z_V l 68 sp_tapeInit := by
  refine z_V.ofP (by decide +kernel) ?_
  rintro as σ K Post ⟨rfl, rfl, hK⟩ hP1 hP0
  refine AW.go (bs := b_Tape_init) [] 60 t_Tape_init ?_
  refine ⟨400, (iI_nI 400).symm, Nat.le_of_ble_eq_true rfl, Nat.le_of_ble_eq_true rfl, ?_⟩
  exact hP1 _ _ (hK _ _ rfl)
def sp_webInit : Sp := (0, 1, 16, [(0, [])], fun as σ K => as = [.ref 0] ∧ σ = [.inr (.inr (8, [.null]))] ∧ ∀ g, K none (some [.inr (.inr (8, [.ref 1])), .inl (0, 16, g)]))
set_option maxRecDepth 20000 in
theorem v_webInit (l : Launch) : z_V l 71 sp_webInit := by
  refine z_V.ofP (by decide +kernel) ?_
  rintro as σ K Post ⟨rfl, rfl, hK⟩ hP1 hP0
  refine AW.go (bs := b_Web_init) [] 60 t_Web_init ?_
  refine ⟨16, (iI_nI 16).symm, Nat.le_of_ble_eq_true rfl, Nat.le_of_ble_eq_true rfl, ?_⟩
  exact hP1 _ _ (hK _)
def sp_deskInit : Sp := (0, 1, 16, [(0, [])], fun as σ K => as = [.ref 0, .ref 10001] ∧ σ = [.inr (.inr (0, [.null, .null, .int 0, .int 0, .int 0, .int 0, .int 0, .int 0, .int 0]))] ∧ ∀ ln ak dy br ad dp lm rs, K none (some [.inr (.inr (0, [.ref 10001, .ref 1, .int ak, .int dy, .int br, .int ad, .int dp, .int lm, .int rs])), .inl (0, 16, ln)]))
set_option maxRecDepth 20000 in
theorem v_deskInit (l : Launch) : z_V l 0 sp_deskInit := by
  refine z_V.ofP (by decide +kernel) ?_
  rintro as σ K Post ⟨rfl, rfl, hK⟩ hP1 hP0
  refine AW.go (bs := b_Desk_init) [] 60 t_Desk_init ?_
  refine ⟨16, (iI_nI 16).symm, Nat.le_of_ble_eq_true rfl, Nat.le_of_ble_eq_true rfl, ?_⟩
  exact hP1 _ _ (hK _ _ _ _ _ _ _ _)
def sp_routeInit : Sp := (0, 2, 264, [(0, [])], fun as σ K => as = [.ref 0, .ref 10001, .ref 10066] ∧ σ = [.inr (.inr (5, [.null, .null, .null, .null, .int 0]))] ∧ ∀ sp ls len, K none (some [.inr (.inr (5, [.ref 10001, .ref 10066, .ref 1, .ref 2, .int len])), .inl (0, 72, sp), .inl (0, 192, ls)]))
set_option maxRecDepth 20000 in
theorem v_routeInit (l : Launch) : z_V l 32 sp_routeInit := by
  refine z_V.ofP (by decide +kernel) ?_
  rintro as σ K Post ⟨rfl, rfl, hK⟩ hP1 hP0
  refine AW.go (bs := b_Route_init) [] 60 t_Route_init ?_
  refine ⟨72, (iI_nI 72).symm, Nat.le_of_ble_eq_true rfl, Nat.le_of_ble_eq_true rfl, ?_⟩
  refine ⟨192, (iI_nI 192).symm, Nat.le_of_ble_eq_true rfl, Nat.le_of_ble_eq_true rfl, ?_⟩
  exact hP1 _ _ (hK _ _ _)
def sp_readerInit : Sp := (0, 1, 5, [(0, [])], fun as σ K => as = [.ref 0, .ref 10056, .ref 10058] ∧ σ = [.inr (.inr (4, [.null, .null, .null, .int 0, .int 0, .int 0]))] ∧ ∀ nu ra rf rt, K none (some [.inr (.inr (4, [.ref 10056, .ref 10058, .ref 1, .int ra, .int rf, .int rt])), .inl (0, 5, nu)]))
set_option maxRecDepth 20000 in
theorem v_readerInit (l : Launch) : z_V l 18 sp_readerInit := by
  refine z_V.ofP (by decide +kernel) ?_
  rintro as σ K Post ⟨rfl, rfl, hK⟩ hP1 hP0
  refine AW.go (bs := b_Reader_init) [] 60 t_Reader_init ?_
  refine ⟨5, (iI_nI 5).symm, Nat.le_of_ble_eq_true rfl, Nat.le_of_ble_eq_true rfl, ?_⟩
  exact hP1 _ _ (hK _ _ _ _)
def sp_letterInit : Sp := (0, 0, 0, [(0, [])], fun as σ K => as = [.ref 0] ∧ σ = [.inr (.inr (1, [.int 0, .int 0, .int 0]))] ∧ ∀ la lb lc, K none (some [.inr (.inr (1, [.int la, .int lb, .int lc]))]))
set_option maxRecDepth 20000 in
theorem v_letterInit (l : Launch) : z_V l 5 sp_letterInit := by
  refine z_V.ofP (by decide +kernel) ?_
  rintro as σ K Post ⟨rfl, rfl, hK⟩ hP1 hP0
  refine AW.go (bs := b_Letter_init) [] 60 t_Letter_init ?_
  exact hP1 _ _ (hK _ _ _)
def sp_matterInit : Sp := (1, 0, 0, [(0, [])], fun as σ K => as = [.ref 0] ∧ σ = [.inr (.inr (2, [.int 0, .int 0, .int 0, .int 0, .int 0, .int 0, .int 0, .int 0]))] ∧ ∀ mp mv mk mo my mw ma ml, K none (some [.inr (.inr (2, [.int mp, .int mv, .int mk, .int mo, .int my, .int mw, .int ma, .int ml]))]))
set_option maxRecDepth 20000 in
theorem v_matterInit (l : Launch) : z_V l 12 sp_matterInit := by
  refine z_V.ofP (by decide +kernel) ?_
  rintro as σ K Post ⟨rfl, rfl, hK⟩ hP1 hP0
  refine AW.go (bs := b_Matter_init) [] 60 t_Matter_init ?_
  refine ⟨_, v_begin l, by decide, _, _, _, _, _, _, _, _, _, _, _, rfl, rfl, ?_⟩
  exact hP1 _ _ (hK _ _ _ _ _ _ _ _)
def sp_pastInit : Sp := (2, 41, 6610, [(0, [])], fun as σ K => as = [.ref 0] ∧ σ = [.inr (.inr (3, [.null, .int 0, .int 0]))] ∧ ∀ (pf ps pt : Nat → Nat → Int32) (fi hz : Int32), fi = iI 0 → hz = iI 0 → K none (some [.inr (.inr (3, [.ref 1, .int fi, .int hz])), .inr (.inl [some 2, some 6, some 10, some 14, some 18, some 22, some 26, some 30, some 34, some 38]), .inr (.inr (6, [.ref 3, .ref 4, .ref 5])), .inl (0, 648, (pf 0)), .inl (0, 6, (ps 0)), .inl (0, 3, (pt 0)), .inr (.inr (6, [.ref 7, .ref 8, .ref 9])), .inl (0, 648, (pf 1)), .inl (0, 6, (ps 1)), .inl (0, 3, (pt 1)), .inr (.inr (6, [.ref 11, .ref 12, .ref 13])), .inl (0, 648, (pf 2)), .inl (0, 6, (ps 2)), .inl (0, 3, (pt 2)), .inr (.inr (6, [.ref 15, .ref 16, .ref 17])), .inl (0, 648, (pf 3)), .inl (0, 6, (ps 3)), .inl (0, 3, (pt 3)), .inr (.inr (6, [.ref 19, .ref 20, .ref 21])), .inl (0, 648, (pf 4)), .inl (0, 6, (ps 4)), .inl (0, 3, (pt 4)), .inr (.inr (6, [.ref 23, .ref 24, .ref 25])), .inl (0, 648, (pf 5)), .inl (0, 6, (ps 5)), .inl (0, 3, (pt 5)), .inr (.inr (6, [.ref 27, .ref 28, .ref 29])), .inl (0, 648, (pf 6)), .inl (0, 6, (ps 6)), .inl (0, 3, (pt 6)), .inr (.inr (6, [.ref 31, .ref 32, .ref 33])), .inl (0, 648, (pf 7)), .inl (0, 6, (ps 7)), .inl (0, 3, (pt 7)), .inr (.inr (6, [.ref 35, .ref 36, .ref 37])), .inl (0, 648, (pf 8)), .inl (0, 6, (ps 8)), .inl (0, 3, (pt 8)), .inr (.inr (6, [.ref 39, .ref 40, .ref 41])), .inl (0, 648, (pf 9)), .inl (0, 6, (ps 9)), .inl (0, 3, (pt 9))]))
set_option maxRecDepth 20000 in
theorem past_0 (l : Launch) {Post : Option Value → List AE → Prop} (h : ∀ f0 s0 t0 : Nat → Int32, AW l 14 2 41 6610 1 none Post 15 [some (.ref 0), some (.int (iI ((1 : Nat) : Int)))] [] [.inr (.inr (3, [.ref 1, .int 0, .int 0])), .inr (.inl [some 2, none, none, none, none, none, none, none, none, none]), .inr (.inr (6, [.ref 3, .ref 4, .ref 5])), .inl (0, 648, f0), .inl (0, 6, s0), .inl (0, 3, t0)] 5 670) : AW l 14 2 41 6610 1 none Post 15 [some (.ref 0), some (.int (iI ((0 : Nat) : Int)))] [] [.inr (.inr (3, [.ref 1, .int 0, .int 0])), .inr (.inl [none, none, none, none, none, none, none, none, none, none])] 1 10 := by
  refine AW.go (bs := b_Past_init) [15] 60 t_Past_init ?_
  refine And.intro (fun q => absurd q (by first | decide | (rw [zd_iff]; decide))) (fun _ => ?_)
  refine ⟨_, v_stInit l, by decide, rfl, rfl, fun f s t _ => ?_⟩
  refine And.intro (zN_in (n := 10) (by omega) (by omega)) ?_
  show AW _ _ _ _ _ _ _ _ _ _ _ _ _ _
  rw [zN_cl (by omega), zn_inc]
  exact h f s t
set_option maxRecDepth 20000 in
theorem past_1 (l : Launch) {Post : Option Value → List AE → Prop} {f0 s0 t0 : Nat → Int32} (h : ∀ f1 s1 t1 : Nat → Int32, AW l 14 2 41 6610 1 none Post 15 [some (.ref 0), some (.int (iI ((2 : Nat) : Int)))] [] [.inr (.inr (3, [.ref 1, .int 0, .int 0])), .inr (.inl [some 2, some 6, none, none, none, none, none, none, none, none]), .inr (.inr (6, [.ref 3, .ref 4, .ref 5])), .inl (0, 648, f0), .inl (0, 6, s0), .inl (0, 3, t0), .inr (.inr (6, [.ref 7, .ref 8, .ref 9])), .inl (0, 648, f1), .inl (0, 6, s1), .inl (0, 3, t1)] 9 1330) : AW l 14 2 41 6610 1 none Post 15 [some (.ref 0), some (.int (iI ((1 : Nat) : Int)))] [] [.inr (.inr (3, [.ref 1, .int 0, .int 0])), .inr (.inl [some 2, none, none, none, none, none, none, none, none, none]), .inr (.inr (6, [.ref 3, .ref 4, .ref 5])), .inl (0, 648, f0), .inl (0, 6, s0), .inl (0, 3, t0)] 5 670 := by
  refine AW.go (bs := b_Past_init) [15] 60 t_Past_init ?_
  refine And.intro (fun q => absurd q (by first | decide | (rw [zd_iff]; decide))) (fun _ => ?_)
  refine ⟨_, v_stInit l, by decide, rfl, rfl, fun f s t _ => ?_⟩
  refine And.intro (zN_in (n := 10) (by omega) (by omega)) ?_
  show AW _ _ _ _ _ _ _ _ _ _ _ _ _ _
  rw [zN_cl (by omega), zn_inc]
  exact h f s t
set_option maxRecDepth 20000 in
theorem past_2 (l : Launch) {Post : Option Value → List AE → Prop} {f0 s0 t0 f1 s1 t1 : Nat → Int32} (h : ∀ f2 s2 t2 : Nat → Int32, AW l 14 2 41 6610 1 none Post 15 [some (.ref 0), some (.int (iI ((3 : Nat) : Int)))] [] [.inr (.inr (3, [.ref 1, .int 0, .int 0])), .inr (.inl [some 2, some 6, some 10, none, none, none, none, none, none, none]), .inr (.inr (6, [.ref 3, .ref 4, .ref 5])), .inl (0, 648, f0), .inl (0, 6, s0), .inl (0, 3, t0), .inr (.inr (6, [.ref 7, .ref 8, .ref 9])), .inl (0, 648, f1), .inl (0, 6, s1), .inl (0, 3, t1), .inr (.inr (6, [.ref 11, .ref 12, .ref 13])), .inl (0, 648, f2), .inl (0, 6, s2), .inl (0, 3, t2)] 13 1990) : AW l 14 2 41 6610 1 none Post 15 [some (.ref 0), some (.int (iI ((2 : Nat) : Int)))] [] [.inr (.inr (3, [.ref 1, .int 0, .int 0])), .inr (.inl [some 2, some 6, none, none, none, none, none, none, none, none]), .inr (.inr (6, [.ref 3, .ref 4, .ref 5])), .inl (0, 648, f0), .inl (0, 6, s0), .inl (0, 3, t0), .inr (.inr (6, [.ref 7, .ref 8, .ref 9])), .inl (0, 648, f1), .inl (0, 6, s1), .inl (0, 3, t1)] 9 1330 := by
  refine AW.go (bs := b_Past_init) [15] 60 t_Past_init ?_
  refine And.intro (fun q => absurd q (by first | decide | (rw [zd_iff]; decide))) (fun _ => ?_)
  refine ⟨_, v_stInit l, by decide, rfl, rfl, fun f s t _ => ?_⟩
  refine And.intro (zN_in (n := 10) (by omega) (by omega)) ?_
  show AW _ _ _ _ _ _ _ _ _ _ _ _ _ _
  rw [zN_cl (by omega), zn_inc]
  exact h f s t
set_option maxRecDepth 20000 in
theorem past_3 (l : Launch) {Post : Option Value → List AE → Prop} {f0 s0 t0 f1 s1 t1 f2 s2 t2 : Nat → Int32} (h : ∀ f3 s3 t3 : Nat → Int32, AW l 14 2 41 6610 1 none Post 15 [some (.ref 0), some (.int (iI ((4 : Nat) : Int)))] [] [.inr (.inr (3, [.ref 1, .int 0, .int 0])), .inr (.inl [some 2, some 6, some 10, some 14, none, none, none, none, none, none]), .inr (.inr (6, [.ref 3, .ref 4, .ref 5])), .inl (0, 648, f0), .inl (0, 6, s0), .inl (0, 3, t0), .inr (.inr (6, [.ref 7, .ref 8, .ref 9])), .inl (0, 648, f1), .inl (0, 6, s1), .inl (0, 3, t1), .inr (.inr (6, [.ref 11, .ref 12, .ref 13])), .inl (0, 648, f2), .inl (0, 6, s2), .inl (0, 3, t2), .inr (.inr (6, [.ref 15, .ref 16, .ref 17])), .inl (0, 648, f3), .inl (0, 6, s3), .inl (0, 3, t3)] 17 2650) : AW l 14 2 41 6610 1 none Post 15 [some (.ref 0), some (.int (iI ((3 : Nat) : Int)))] [] [.inr (.inr (3, [.ref 1, .int 0, .int 0])), .inr (.inl [some 2, some 6, some 10, none, none, none, none, none, none, none]), .inr (.inr (6, [.ref 3, .ref 4, .ref 5])), .inl (0, 648, f0), .inl (0, 6, s0), .inl (0, 3, t0), .inr (.inr (6, [.ref 7, .ref 8, .ref 9])), .inl (0, 648, f1), .inl (0, 6, s1), .inl (0, 3, t1), .inr (.inr (6, [.ref 11, .ref 12, .ref 13])), .inl (0, 648, f2), .inl (0, 6, s2), .inl (0, 3, t2)] 13 1990 := by
  refine AW.go (bs := b_Past_init) [15] 60 t_Past_init ?_
  refine And.intro (fun q => absurd q (by first | decide | (rw [zd_iff]; decide))) (fun _ => ?_)
  refine ⟨_, v_stInit l, by decide, rfl, rfl, fun f s t _ => ?_⟩
  refine And.intro (zN_in (n := 10) (by omega) (by omega)) ?_
  show AW _ _ _ _ _ _ _ _ _ _ _ _ _ _
  rw [zN_cl (by omega), zn_inc]
  exact h f s t
set_option maxRecDepth 20000 in
theorem past_4 (l : Launch) {Post : Option Value → List AE → Prop} {f0 s0 t0 f1 s1 t1 f2 s2 t2 f3 s3 t3 : Nat → Int32} (h : ∀ f4 s4 t4 : Nat → Int32, AW l 14 2 41 6610 1 none Post 15 [some (.ref 0), some (.int (iI ((5 : Nat) : Int)))] [] [.inr (.inr (3, [.ref 1, .int 0, .int 0])), .inr (.inl [some 2, some 6, some 10, some 14, some 18, none, none, none, none, none]), .inr (.inr (6, [.ref 3, .ref 4, .ref 5])), .inl (0, 648, f0), .inl (0, 6, s0), .inl (0, 3, t0), .inr (.inr (6, [.ref 7, .ref 8, .ref 9])), .inl (0, 648, f1), .inl (0, 6, s1), .inl (0, 3, t1), .inr (.inr (6, [.ref 11, .ref 12, .ref 13])), .inl (0, 648, f2), .inl (0, 6, s2), .inl (0, 3, t2), .inr (.inr (6, [.ref 15, .ref 16, .ref 17])), .inl (0, 648, f3), .inl (0, 6, s3), .inl (0, 3, t3), .inr (.inr (6, [.ref 19, .ref 20, .ref 21])), .inl (0, 648, f4), .inl (0, 6, s4), .inl (0, 3, t4)] 21 3310) : AW l 14 2 41 6610 1 none Post 15 [some (.ref 0), some (.int (iI ((4 : Nat) : Int)))] [] [.inr (.inr (3, [.ref 1, .int 0, .int 0])), .inr (.inl [some 2, some 6, some 10, some 14, none, none, none, none, none, none]), .inr (.inr (6, [.ref 3, .ref 4, .ref 5])), .inl (0, 648, f0), .inl (0, 6, s0), .inl (0, 3, t0), .inr (.inr (6, [.ref 7, .ref 8, .ref 9])), .inl (0, 648, f1), .inl (0, 6, s1), .inl (0, 3, t1), .inr (.inr (6, [.ref 11, .ref 12, .ref 13])), .inl (0, 648, f2), .inl (0, 6, s2), .inl (0, 3, t2), .inr (.inr (6, [.ref 15, .ref 16, .ref 17])), .inl (0, 648, f3), .inl (0, 6, s3), .inl (0, 3, t3)] 17 2650 := by
  refine AW.go (bs := b_Past_init) [15] 60 t_Past_init ?_
  refine And.intro (fun q => absurd q (by first | decide | (rw [zd_iff]; decide))) (fun _ => ?_)
  refine ⟨_, v_stInit l, by decide, rfl, rfl, fun f s t _ => ?_⟩
  refine And.intro (zN_in (n := 10) (by omega) (by omega)) ?_
  show AW _ _ _ _ _ _ _ _ _ _ _ _ _ _
  rw [zN_cl (by omega), zn_inc]
  exact h f s t
set_option maxRecDepth 20000 in
theorem past_5 (l : Launch) {Post : Option Value → List AE → Prop} {f0 s0 t0 f1 s1 t1 f2 s2 t2 f3 s3 t3 f4 s4 t4 : Nat → Int32} (h : ∀ f5 s5 t5 : Nat → Int32, AW l 14 2 41 6610 1 none Post 15 [some (.ref 0), some (.int (iI ((6 : Nat) : Int)))] [] [.inr (.inr (3, [.ref 1, .int 0, .int 0])), .inr (.inl [some 2, some 6, some 10, some 14, some 18, some 22, none, none, none, none]), .inr (.inr (6, [.ref 3, .ref 4, .ref 5])), .inl (0, 648, f0), .inl (0, 6, s0), .inl (0, 3, t0), .inr (.inr (6, [.ref 7, .ref 8, .ref 9])), .inl (0, 648, f1), .inl (0, 6, s1), .inl (0, 3, t1), .inr (.inr (6, [.ref 11, .ref 12, .ref 13])), .inl (0, 648, f2), .inl (0, 6, s2), .inl (0, 3, t2), .inr (.inr (6, [.ref 15, .ref 16, .ref 17])), .inl (0, 648, f3), .inl (0, 6, s3), .inl (0, 3, t3), .inr (.inr (6, [.ref 19, .ref 20, .ref 21])), .inl (0, 648, f4), .inl (0, 6, s4), .inl (0, 3, t4), .inr (.inr (6, [.ref 23, .ref 24, .ref 25])), .inl (0, 648, f5), .inl (0, 6, s5), .inl (0, 3, t5)] 25 3970) : AW l 14 2 41 6610 1 none Post 15 [some (.ref 0), some (.int (iI ((5 : Nat) : Int)))] [] [.inr (.inr (3, [.ref 1, .int 0, .int 0])), .inr (.inl [some 2, some 6, some 10, some 14, some 18, none, none, none, none, none]), .inr (.inr (6, [.ref 3, .ref 4, .ref 5])), .inl (0, 648, f0), .inl (0, 6, s0), .inl (0, 3, t0), .inr (.inr (6, [.ref 7, .ref 8, .ref 9])), .inl (0, 648, f1), .inl (0, 6, s1), .inl (0, 3, t1), .inr (.inr (6, [.ref 11, .ref 12, .ref 13])), .inl (0, 648, f2), .inl (0, 6, s2), .inl (0, 3, t2), .inr (.inr (6, [.ref 15, .ref 16, .ref 17])), .inl (0, 648, f3), .inl (0, 6, s3), .inl (0, 3, t3), .inr (.inr (6, [.ref 19, .ref 20, .ref 21])), .inl (0, 648, f4), .inl (0, 6, s4), .inl (0, 3, t4)] 21 3310 := by
  refine AW.go (bs := b_Past_init) [15] 60 t_Past_init ?_
  refine And.intro (fun q => absurd q (by first | decide | (rw [zd_iff]; decide))) (fun _ => ?_)
  refine ⟨_, v_stInit l, by decide, rfl, rfl, fun f s t _ => ?_⟩
  refine And.intro (zN_in (n := 10) (by omega) (by omega)) ?_
  show AW _ _ _ _ _ _ _ _ _ _ _ _ _ _
  rw [zN_cl (by omega), zn_inc]
  exact h f s t
set_option maxRecDepth 20000 in
theorem past_6 (l : Launch) {Post : Option Value → List AE → Prop} {f0 s0 t0 f1 s1 t1 f2 s2 t2 f3 s3 t3 f4 s4 t4 f5 s5 t5 : Nat → Int32} (h : ∀ f6 s6 t6 : Nat → Int32, AW l 14 2 41 6610 1 none Post 15 [some (.ref 0), some (.int (iI ((7 : Nat) : Int)))] [] [.inr (.inr (3, [.ref 1, .int 0, .int 0])), .inr (.inl [some 2, some 6, some 10, some 14, some 18, some 22, some 26, none, none, none]), .inr (.inr (6, [.ref 3, .ref 4, .ref 5])), .inl (0, 648, f0), .inl (0, 6, s0), .inl (0, 3, t0), .inr (.inr (6, [.ref 7, .ref 8, .ref 9])), .inl (0, 648, f1), .inl (0, 6, s1), .inl (0, 3, t1), .inr (.inr (6, [.ref 11, .ref 12, .ref 13])), .inl (0, 648, f2), .inl (0, 6, s2), .inl (0, 3, t2), .inr (.inr (6, [.ref 15, .ref 16, .ref 17])), .inl (0, 648, f3), .inl (0, 6, s3), .inl (0, 3, t3), .inr (.inr (6, [.ref 19, .ref 20, .ref 21])), .inl (0, 648, f4), .inl (0, 6, s4), .inl (0, 3, t4), .inr (.inr (6, [.ref 23, .ref 24, .ref 25])), .inl (0, 648, f5), .inl (0, 6, s5), .inl (0, 3, t5), .inr (.inr (6, [.ref 27, .ref 28, .ref 29])), .inl (0, 648, f6), .inl (0, 6, s6), .inl (0, 3, t6)] 29 4630) : AW l 14 2 41 6610 1 none Post 15 [some (.ref 0), some (.int (iI ((6 : Nat) : Int)))] [] [.inr (.inr (3, [.ref 1, .int 0, .int 0])), .inr (.inl [some 2, some 6, some 10, some 14, some 18, some 22, none, none, none, none]), .inr (.inr (6, [.ref 3, .ref 4, .ref 5])), .inl (0, 648, f0), .inl (0, 6, s0), .inl (0, 3, t0), .inr (.inr (6, [.ref 7, .ref 8, .ref 9])), .inl (0, 648, f1), .inl (0, 6, s1), .inl (0, 3, t1), .inr (.inr (6, [.ref 11, .ref 12, .ref 13])), .inl (0, 648, f2), .inl (0, 6, s2), .inl (0, 3, t2), .inr (.inr (6, [.ref 15, .ref 16, .ref 17])), .inl (0, 648, f3), .inl (0, 6, s3), .inl (0, 3, t3), .inr (.inr (6, [.ref 19, .ref 20, .ref 21])), .inl (0, 648, f4), .inl (0, 6, s4), .inl (0, 3, t4), .inr (.inr (6, [.ref 23, .ref 24, .ref 25])), .inl (0, 648, f5), .inl (0, 6, s5), .inl (0, 3, t5)] 25 3970 := by
  refine AW.go (bs := b_Past_init) [15] 60 t_Past_init ?_
  refine And.intro (fun q => absurd q (by first | decide | (rw [zd_iff]; decide))) (fun _ => ?_)
  refine ⟨_, v_stInit l, by decide, rfl, rfl, fun f s t _ => ?_⟩
  refine And.intro (zN_in (n := 10) (by omega) (by omega)) ?_
  show AW _ _ _ _ _ _ _ _ _ _ _ _ _ _
  rw [zN_cl (by omega), zn_inc]
  exact h f s t
set_option maxRecDepth 20000 in
theorem past_7 (l : Launch) {Post : Option Value → List AE → Prop} {f0 s0 t0 f1 s1 t1 f2 s2 t2 f3 s3 t3 f4 s4 t4 f5 s5 t5 f6 s6 t6 : Nat → Int32} (h : ∀ f7 s7 t7 : Nat → Int32, AW l 14 2 41 6610 1 none Post 15 [some (.ref 0), some (.int (iI ((8 : Nat) : Int)))] [] [.inr (.inr (3, [.ref 1, .int 0, .int 0])), .inr (.inl [some 2, some 6, some 10, some 14, some 18, some 22, some 26, some 30, none, none]), .inr (.inr (6, [.ref 3, .ref 4, .ref 5])), .inl (0, 648, f0), .inl (0, 6, s0), .inl (0, 3, t0), .inr (.inr (6, [.ref 7, .ref 8, .ref 9])), .inl (0, 648, f1), .inl (0, 6, s1), .inl (0, 3, t1), .inr (.inr (6, [.ref 11, .ref 12, .ref 13])), .inl (0, 648, f2), .inl (0, 6, s2), .inl (0, 3, t2), .inr (.inr (6, [.ref 15, .ref 16, .ref 17])), .inl (0, 648, f3), .inl (0, 6, s3), .inl (0, 3, t3), .inr (.inr (6, [.ref 19, .ref 20, .ref 21])), .inl (0, 648, f4), .inl (0, 6, s4), .inl (0, 3, t4), .inr (.inr (6, [.ref 23, .ref 24, .ref 25])), .inl (0, 648, f5), .inl (0, 6, s5), .inl (0, 3, t5), .inr (.inr (6, [.ref 27, .ref 28, .ref 29])), .inl (0, 648, f6), .inl (0, 6, s6), .inl (0, 3, t6), .inr (.inr (6, [.ref 31, .ref 32, .ref 33])), .inl (0, 648, f7), .inl (0, 6, s7), .inl (0, 3, t7)] 33 5290) : AW l 14 2 41 6610 1 none Post 15 [some (.ref 0), some (.int (iI ((7 : Nat) : Int)))] [] [.inr (.inr (3, [.ref 1, .int 0, .int 0])), .inr (.inl [some 2, some 6, some 10, some 14, some 18, some 22, some 26, none, none, none]), .inr (.inr (6, [.ref 3, .ref 4, .ref 5])), .inl (0, 648, f0), .inl (0, 6, s0), .inl (0, 3, t0), .inr (.inr (6, [.ref 7, .ref 8, .ref 9])), .inl (0, 648, f1), .inl (0, 6, s1), .inl (0, 3, t1), .inr (.inr (6, [.ref 11, .ref 12, .ref 13])), .inl (0, 648, f2), .inl (0, 6, s2), .inl (0, 3, t2), .inr (.inr (6, [.ref 15, .ref 16, .ref 17])), .inl (0, 648, f3), .inl (0, 6, s3), .inl (0, 3, t3), .inr (.inr (6, [.ref 19, .ref 20, .ref 21])), .inl (0, 648, f4), .inl (0, 6, s4), .inl (0, 3, t4), .inr (.inr (6, [.ref 23, .ref 24, .ref 25])), .inl (0, 648, f5), .inl (0, 6, s5), .inl (0, 3, t5), .inr (.inr (6, [.ref 27, .ref 28, .ref 29])), .inl (0, 648, f6), .inl (0, 6, s6), .inl (0, 3, t6)] 29 4630 := by
  refine AW.go (bs := b_Past_init) [15] 60 t_Past_init ?_
  refine And.intro (fun q => absurd q (by first | decide | (rw [zd_iff]; decide))) (fun _ => ?_)
  refine ⟨_, v_stInit l, by decide, rfl, rfl, fun f s t _ => ?_⟩
  refine And.intro (zN_in (n := 10) (by omega) (by omega)) ?_
  show AW _ _ _ _ _ _ _ _ _ _ _ _ _ _
  rw [zN_cl (by omega), zn_inc]
  exact h f s t
set_option maxRecDepth 20000 in
theorem past_8 (l : Launch) {Post : Option Value → List AE → Prop} {f0 s0 t0 f1 s1 t1 f2 s2 t2 f3 s3 t3 f4 s4 t4 f5 s5 t5 f6 s6 t6 f7 s7 t7 : Nat → Int32} (h : ∀ f8 s8 t8 : Nat → Int32, AW l 14 2 41 6610 1 none Post 15 [some (.ref 0), some (.int (iI ((9 : Nat) : Int)))] [] [.inr (.inr (3, [.ref 1, .int 0, .int 0])), .inr (.inl [some 2, some 6, some 10, some 14, some 18, some 22, some 26, some 30, some 34, none]), .inr (.inr (6, [.ref 3, .ref 4, .ref 5])), .inl (0, 648, f0), .inl (0, 6, s0), .inl (0, 3, t0), .inr (.inr (6, [.ref 7, .ref 8, .ref 9])), .inl (0, 648, f1), .inl (0, 6, s1), .inl (0, 3, t1), .inr (.inr (6, [.ref 11, .ref 12, .ref 13])), .inl (0, 648, f2), .inl (0, 6, s2), .inl (0, 3, t2), .inr (.inr (6, [.ref 15, .ref 16, .ref 17])), .inl (0, 648, f3), .inl (0, 6, s3), .inl (0, 3, t3), .inr (.inr (6, [.ref 19, .ref 20, .ref 21])), .inl (0, 648, f4), .inl (0, 6, s4), .inl (0, 3, t4), .inr (.inr (6, [.ref 23, .ref 24, .ref 25])), .inl (0, 648, f5), .inl (0, 6, s5), .inl (0, 3, t5), .inr (.inr (6, [.ref 27, .ref 28, .ref 29])), .inl (0, 648, f6), .inl (0, 6, s6), .inl (0, 3, t6), .inr (.inr (6, [.ref 31, .ref 32, .ref 33])), .inl (0, 648, f7), .inl (0, 6, s7), .inl (0, 3, t7), .inr (.inr (6, [.ref 35, .ref 36, .ref 37])), .inl (0, 648, f8), .inl (0, 6, s8), .inl (0, 3, t8)] 37 5950) : AW l 14 2 41 6610 1 none Post 15 [some (.ref 0), some (.int (iI ((8 : Nat) : Int)))] [] [.inr (.inr (3, [.ref 1, .int 0, .int 0])), .inr (.inl [some 2, some 6, some 10, some 14, some 18, some 22, some 26, some 30, none, none]), .inr (.inr (6, [.ref 3, .ref 4, .ref 5])), .inl (0, 648, f0), .inl (0, 6, s0), .inl (0, 3, t0), .inr (.inr (6, [.ref 7, .ref 8, .ref 9])), .inl (0, 648, f1), .inl (0, 6, s1), .inl (0, 3, t1), .inr (.inr (6, [.ref 11, .ref 12, .ref 13])), .inl (0, 648, f2), .inl (0, 6, s2), .inl (0, 3, t2), .inr (.inr (6, [.ref 15, .ref 16, .ref 17])), .inl (0, 648, f3), .inl (0, 6, s3), .inl (0, 3, t3), .inr (.inr (6, [.ref 19, .ref 20, .ref 21])), .inl (0, 648, f4), .inl (0, 6, s4), .inl (0, 3, t4), .inr (.inr (6, [.ref 23, .ref 24, .ref 25])), .inl (0, 648, f5), .inl (0, 6, s5), .inl (0, 3, t5), .inr (.inr (6, [.ref 27, .ref 28, .ref 29])), .inl (0, 648, f6), .inl (0, 6, s6), .inl (0, 3, t6), .inr (.inr (6, [.ref 31, .ref 32, .ref 33])), .inl (0, 648, f7), .inl (0, 6, s7), .inl (0, 3, t7)] 33 5290 := by
  refine AW.go (bs := b_Past_init) [15] 60 t_Past_init ?_
  refine And.intro (fun q => absurd q (by first | decide | (rw [zd_iff]; decide))) (fun _ => ?_)
  refine ⟨_, v_stInit l, by decide, rfl, rfl, fun f s t _ => ?_⟩
  refine And.intro (zN_in (n := 10) (by omega) (by omega)) ?_
  show AW _ _ _ _ _ _ _ _ _ _ _ _ _ _
  rw [zN_cl (by omega), zn_inc]
  exact h f s t
set_option maxRecDepth 20000 in
theorem past_9 (l : Launch) {Post : Option Value → List AE → Prop} {f0 s0 t0 f1 s1 t1 f2 s2 t2 f3 s3 t3 f4 s4 t4 f5 s5 t5 f6 s6 t6 f7 s7 t7 f8 s8 t8 : Nat → Int32} (h : ∀ f9 s9 t9 : Nat → Int32, AW l 14 2 41 6610 1 none Post 15 [some (.ref 0), some (.int (iI ((10 : Nat) : Int)))] [] [.inr (.inr (3, [.ref 1, .int 0, .int 0])), .inr (.inl [some 2, some 6, some 10, some 14, some 18, some 22, some 26, some 30, some 34, some 38]), .inr (.inr (6, [.ref 3, .ref 4, .ref 5])), .inl (0, 648, f0), .inl (0, 6, s0), .inl (0, 3, t0), .inr (.inr (6, [.ref 7, .ref 8, .ref 9])), .inl (0, 648, f1), .inl (0, 6, s1), .inl (0, 3, t1), .inr (.inr (6, [.ref 11, .ref 12, .ref 13])), .inl (0, 648, f2), .inl (0, 6, s2), .inl (0, 3, t2), .inr (.inr (6, [.ref 15, .ref 16, .ref 17])), .inl (0, 648, f3), .inl (0, 6, s3), .inl (0, 3, t3), .inr (.inr (6, [.ref 19, .ref 20, .ref 21])), .inl (0, 648, f4), .inl (0, 6, s4), .inl (0, 3, t4), .inr (.inr (6, [.ref 23, .ref 24, .ref 25])), .inl (0, 648, f5), .inl (0, 6, s5), .inl (0, 3, t5), .inr (.inr (6, [.ref 27, .ref 28, .ref 29])), .inl (0, 648, f6), .inl (0, 6, s6), .inl (0, 3, t6), .inr (.inr (6, [.ref 31, .ref 32, .ref 33])), .inl (0, 648, f7), .inl (0, 6, s7), .inl (0, 3, t7), .inr (.inr (6, [.ref 35, .ref 36, .ref 37])), .inl (0, 648, f8), .inl (0, 6, s8), .inl (0, 3, t8), .inr (.inr (6, [.ref 39, .ref 40, .ref 41])), .inl (0, 648, f9), .inl (0, 6, s9), .inl (0, 3, t9)] 41 6610) : AW l 14 2 41 6610 1 none Post 15 [some (.ref 0), some (.int (iI ((9 : Nat) : Int)))] [] [.inr (.inr (3, [.ref 1, .int 0, .int 0])), .inr (.inl [some 2, some 6, some 10, some 14, some 18, some 22, some 26, some 30, some 34, none]), .inr (.inr (6, [.ref 3, .ref 4, .ref 5])), .inl (0, 648, f0), .inl (0, 6, s0), .inl (0, 3, t0), .inr (.inr (6, [.ref 7, .ref 8, .ref 9])), .inl (0, 648, f1), .inl (0, 6, s1), .inl (0, 3, t1), .inr (.inr (6, [.ref 11, .ref 12, .ref 13])), .inl (0, 648, f2), .inl (0, 6, s2), .inl (0, 3, t2), .inr (.inr (6, [.ref 15, .ref 16, .ref 17])), .inl (0, 648, f3), .inl (0, 6, s3), .inl (0, 3, t3), .inr (.inr (6, [.ref 19, .ref 20, .ref 21])), .inl (0, 648, f4), .inl (0, 6, s4), .inl (0, 3, t4), .inr (.inr (6, [.ref 23, .ref 24, .ref 25])), .inl (0, 648, f5), .inl (0, 6, s5), .inl (0, 3, t5), .inr (.inr (6, [.ref 27, .ref 28, .ref 29])), .inl (0, 648, f6), .inl (0, 6, s6), .inl (0, 3, t6), .inr (.inr (6, [.ref 31, .ref 32, .ref 33])), .inl (0, 648, f7), .inl (0, 6, s7), .inl (0, 3, t7), .inr (.inr (6, [.ref 35, .ref 36, .ref 37])), .inl (0, 648, f8), .inl (0, 6, s8), .inl (0, 3, t8)] 37 5950 := by
  refine AW.go (bs := b_Past_init) [15] 60 t_Past_init ?_
  refine And.intro (fun q => absurd q (by first | decide | (rw [zd_iff]; decide))) (fun _ => ?_)
  refine ⟨_, v_stInit l, by decide, rfl, rfl, fun f s t _ => ?_⟩
  refine And.intro (zN_in (n := 10) (by omega) (by omega)) ?_
  show AW _ _ _ _ _ _ _ _ _ _ _ _ _ _
  rw [zN_cl (by omega), zn_inc]
  exact h f s t
set_option maxRecDepth 20000 in
theorem past_10 (l : Launch) {Post : Option Value → List AE → Prop} {f0 s0 t0 f1 s1 t1 f2 s2 t2 f3 s3 t3 f4 s4 t4 f5 s5 t5 f6 s6 t6 f7 s7 t7 f8 s8 t8 f9 s9 t9 : Nat → Int32} (h : ∀ (pf ps pt : Nat → Nat → Int32) (fi hz : Int32), fi = iI 0 → hz = iI 0 → Post none [.inr (.inr (3, [.ref 1, .int fi, .int hz])), .inr (.inl [some 2, some 6, some 10, some 14, some 18, some 22, some 26, some 30, some 34, some 38]), .inr (.inr (6, [.ref 3, .ref 4, .ref 5])), .inl (0, 648, (pf 0)), .inl (0, 6, (ps 0)), .inl (0, 3, (pt 0)), .inr (.inr (6, [.ref 7, .ref 8, .ref 9])), .inl (0, 648, (pf 1)), .inl (0, 6, (ps 1)), .inl (0, 3, (pt 1)), .inr (.inr (6, [.ref 11, .ref 12, .ref 13])), .inl (0, 648, (pf 2)), .inl (0, 6, (ps 2)), .inl (0, 3, (pt 2)), .inr (.inr (6, [.ref 15, .ref 16, .ref 17])), .inl (0, 648, (pf 3)), .inl (0, 6, (ps 3)), .inl (0, 3, (pt 3)), .inr (.inr (6, [.ref 19, .ref 20, .ref 21])), .inl (0, 648, (pf 4)), .inl (0, 6, (ps 4)), .inl (0, 3, (pt 4)), .inr (.inr (6, [.ref 23, .ref 24, .ref 25])), .inl (0, 648, (pf 5)), .inl (0, 6, (ps 5)), .inl (0, 3, (pt 5)), .inr (.inr (6, [.ref 27, .ref 28, .ref 29])), .inl (0, 648, (pf 6)), .inl (0, 6, (ps 6)), .inl (0, 3, (pt 6)), .inr (.inr (6, [.ref 31, .ref 32, .ref 33])), .inl (0, 648, (pf 7)), .inl (0, 6, (ps 7)), .inl (0, 3, (pt 7)), .inr (.inr (6, [.ref 35, .ref 36, .ref 37])), .inl (0, 648, (pf 8)), .inl (0, 6, (ps 8)), .inl (0, 3, (pt 8)), .inr (.inr (6, [.ref 39, .ref 40, .ref 41])), .inl (0, 648, (pf 9)), .inl (0, 6, (ps 9)), .inl (0, 3, (pt 9))]) : AW l 14 2 41 6610 1 none Post 15 [some (.ref 0), some (.int (iI ((10 : Nat) : Int)))] [] [.inr (.inr (3, [.ref 1, .int 0, .int 0])), .inr (.inl [some 2, some 6, some 10, some 14, some 18, some 22, some 26, some 30, some 34, some 38]), .inr (.inr (6, [.ref 3, .ref 4, .ref 5])), .inl (0, 648, f0), .inl (0, 6, s0), .inl (0, 3, t0), .inr (.inr (6, [.ref 7, .ref 8, .ref 9])), .inl (0, 648, f1), .inl (0, 6, s1), .inl (0, 3, t1), .inr (.inr (6, [.ref 11, .ref 12, .ref 13])), .inl (0, 648, f2), .inl (0, 6, s2), .inl (0, 3, t2), .inr (.inr (6, [.ref 15, .ref 16, .ref 17])), .inl (0, 648, f3), .inl (0, 6, s3), .inl (0, 3, t3), .inr (.inr (6, [.ref 19, .ref 20, .ref 21])), .inl (0, 648, f4), .inl (0, 6, s4), .inl (0, 3, t4), .inr (.inr (6, [.ref 23, .ref 24, .ref 25])), .inl (0, 648, f5), .inl (0, 6, s5), .inl (0, 3, t5), .inr (.inr (6, [.ref 27, .ref 28, .ref 29])), .inl (0, 648, f6), .inl (0, 6, s6), .inl (0, 3, t6), .inr (.inr (6, [.ref 31, .ref 32, .ref 33])), .inl (0, 648, f7), .inl (0, 6, s7), .inl (0, 3, t7), .inr (.inr (6, [.ref 35, .ref 36, .ref 37])), .inl (0, 648, f8), .inl (0, 6, s8), .inl (0, 3, t8), .inr (.inr (6, [.ref 39, .ref 40, .ref 41])), .inl (0, 648, f9), .inl (0, 6, s9), .inl (0, 3, t9)] 41 6610 := by
  refine AW.go (bs := b_Past_init) [] 60 t_Past_init ?_
  refine And.intro (fun _ => ?_) (fun q => absurd (by first | decide | (rw [zd_iff]; decide)) q)
  exact h (fun i => [f0, f1, f2, f3, f4, f5, f6, f7, f8, f9].getD i f0) (fun i => [s0, s1, s2, s3, s4, s5, s6, s7, s8, s9].getD i s0) (fun i => [t0, t1, t2, t3, t4, t5, t6, t7, t8, t9].getD i t0) _ _ rfl rfl
set_option maxRecDepth 20000 in
theorem v_pastInit (l : Launch) : z_V l 14 sp_pastInit := by
  refine z_V.ofP (by decide +kernel) ?_
  rintro as σ K Post ⟨rfl, rfl, hK⟩ hP1 hP0
  refine AW.go (bs := b_Past_init) [15] 60 t_Past_init ?_
  refine ⟨10, (iI_nI 10).symm, Nat.le_of_ble_eq_true rfl, Nat.le_of_ble_eq_true rfl, ?_⟩
  exact past_0 l (fun _ _ _ => past_1 l (fun _ _ _ => past_2 l (fun _ _ _ => past_3 l (fun _ _ _ => past_4 l (fun _ _ _ => past_5 l (fun _ _ _ => past_6 l (fun _ _ _ => past_7 l (fun _ _ _ => past_8 l (fun _ _ _ => past_9 l (fun _ _ _ => past_10 l (fun pf ps pt fi hz e1 e2 => hP1 _ _ (hK pf ps pt fi hz e1 e2))))))))))))
