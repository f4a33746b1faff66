/-! the class's own world -/
def wA (f s t f1 s1 t1 f2 s2 t2 tb f3 s3 t3 nu ln sp ls g ta pl : Nat → Int32) (pf ps pt : Nat → Nat → Int32) (fi hz ks tz ra rf rt la lb lc mp mv mk mo my mw ma ml ak dy br ad dp lm rs len : Int32) : List AE := [.inr (.inr (9, [.ref 1, .ref 5, .ref 47, .int ks, .ref 56, .ref 58, .ref 62, .ref 64, .ref 65, .ref 66, .ref 68, .ref 71, .ref 73, .ref 74])),
  .inr (.inr (6, [.ref 2, .ref 3, .ref 4])), .inl (0, 648, f), .inl (0, 6, s), .inl (0, 3, t),
  .inr (.inr (3, [.ref 6, .int fi, .int hz])), .inr (.inl [some 7, some 11, some 15, some 19, some 23, some 27, some 31, some 35, some 39, some 43]),
  .inr (.inr (6, [.ref 8, .ref 9, .ref 10])), .inl (0, 648, (pf 0)), .inl (0, 6, (ps 0)), .inl (0, 3, (pt 0)),
  .inr (.inr (6, [.ref 12, .ref 13, .ref 14])), .inl (0, 648, (pf 1)), .inl (0, 6, (ps 1)), .inl (0, 3, (pt 1)),
  .inr (.inr (6, [.ref 16, .ref 17, .ref 18])), .inl (0, 648, (pf 2)), .inl (0, 6, (ps 2)), .inl (0, 3, (pt 2)),
  .inr (.inr (6, [.ref 20, .ref 21, .ref 22])), .inl (0, 648, (pf 3)), .inl (0, 6, (ps 3)), .inl (0, 3, (pt 3)),
  .inr (.inr (6, [.ref 24, .ref 25, .ref 26])), .inl (0, 648, (pf 4)), .inl (0, 6, (ps 4)), .inl (0, 3, (pt 4)),
  .inr (.inr (6, [.ref 28, .ref 29, .ref 30])), .inl (0, 648, (pf 5)), .inl (0, 6, (ps 5)), .inl (0, 3, (pt 5)),
  .inr (.inr (6, [.ref 32, .ref 33, .ref 34])), .inl (0, 648, (pf 6)), .inl (0, 6, (ps 6)), .inl (0, 3, (pt 6)),
  .inr (.inr (6, [.ref 36, .ref 37, .ref 38])), .inl (0, 648, (pf 7)), .inl (0, 6, (ps 7)), .inl (0, 3, (pt 7)),
  .inr (.inr (6, [.ref 40, .ref 41, .ref 42])), .inl (0, 648, (pf 8)), .inl (0, 6, (ps 8)), .inl (0, 3, (pt 8)),
  .inr (.inr (6, [.ref 44, .ref 45, .ref 46])), .inl (0, 648, (pf 9)), .inl (0, 6, (ps 9)), .inl (0, 3, (pt 9)),
  .inr (.inl [some 48, some 52]),
  .inr (.inr (6, [.ref 49, .ref 50, .ref 51])), .inl (0, 648, f1), .inl (0, 6, s1), .inl (0, 3, t1),
  .inr (.inr (6, [.ref 53, .ref 54, .ref 55])), .inl (0, 648, f2), .inl (0, 6, s2), .inl (0, 3, t2),
  .inr (.inr (7, [.ref 57, .int tz])), .inl (1, 400, tb),
  .inr (.inr (6, [.ref 59, .ref 60, .ref 61])), .inl (0, 648, f3), .inl (0, 6, s3), .inl (0, 3, t3),
  .inr (.inr (4, [.ref 56, .ref 58, .ref 63, .int ra, .int rf, .int rt])), .inl (0, 5, nu),
  .inr (.inr (1, [.int la, .int lb, .int lc])),
  .inr (.inr (2, [.int mp, .int mv, .int mk, .int mo, .int my, .int mw, .int ma, .int ml])),
  .inr (.inr (0, [.ref 1, .ref 67, .int ak, .int dy, .int br, .int ad, .int dp, .int lm, .int rs])), .inl (0, 16, ln),
  .inr (.inr (5, [.ref 1, .ref 66, .ref 69, .ref 70, .int len])), .inl (0, 72, sp), .inl (0, 192, ls),
  .inr (.inr (8, [.ref 72])), .inl (0, 16, g),
  .inl (0, 16, ta), .inl (0, 40, pl)]
def pA : List (Nat × List Nat) := [(0, []), (0, [0]), (0, [0, 0]), (0, [0, 1]), (0, [0, 2]), (0, [1]), (0, [1, 0]), (0, [1, 0, 0]), (0, [1, 0, 0, 0]), (0, [1, 0, 0, 1]), (0, [1, 0, 0, 2]), (0, [1, 0, 1]), (0, [1, 0, 1, 0]), (0, [1, 0, 1, 1]), (0, [1, 0, 1, 2]), (0, [1, 0, 2]), (0, [1, 0, 2, 0]), (0, [1, 0, 2, 1]), (0, [1, 0, 2, 2]), (0, [1, 0, 3]), (0, [1, 0, 3, 0]), (0, [1, 0, 3, 1]), (0, [1, 0, 3, 2]), (0, [1, 0, 4]), (0, [1, 0, 4, 0]), (0, [1, 0, 4, 1]), (0, [1, 0, 4, 2]), (0, [1, 0, 5]), (0, [1, 0, 5, 0]), (0, [1, 0, 5, 1]), (0, [1, 0, 5, 2]), (0, [1, 0, 6]), (0, [1, 0, 6, 0]), (0, [1, 0, 6, 1]), (0, [1, 0, 6, 2]), (0, [1, 0, 7]), (0, [1, 0, 7, 0]), (0, [1, 0, 7, 1]), (0, [1, 0, 7, 2]), (0, [1, 0, 8]), (0, [1, 0, 8, 0]), (0, [1, 0, 8, 1]), (0, [1, 0, 8, 2]), (0, [1, 0, 9]), (0, [1, 0, 9, 0]), (0, [1, 0, 9, 1]), (0, [1, 0, 9, 2]), (0, [2]), (0, [2, 0]), (0, [2, 0, 0]), (0, [2, 0, 1]), (0, [2, 0, 2]), (0, [2, 1]), (0, [2, 1, 0]), (0, [2, 1, 1]), (0, [2, 1, 2]), (0, [4]), (0, [4, 0]), (0, [5]), (0, [5, 0]), (0, [5, 1]), (0, [5, 2]), (0, [6]), (0, [6, 2]), (0, [7]), (0, [8]), (0, [9]), (0, [9, 1]), (0, [10]), (0, [10, 2]), (0, [10, 3]), (0, [11]), (0, [11, 0]), (0, [12]), (0, [13])]
/-! calls within the class's world: the long walk over its places is done once -/
def rhoA : List Nat := [0, 1, 2, 3, 4, 5, 6, 7, 8, 9, 10, 11, 12, 13, 14, 15, 16, 17, 18, 19, 20, 21, 22, 23, 24, 25, 26, 27, 28, 29, 30, 31, 32, 33, 34, 35, 36, 37, 38, 39, 40, 41, 42, 43, 44, 45, 46, 47, 48, 49, 50, 51, 52, 53, 54, 55, 56, 57, 58, 59, 60, 61, 62, 63, 64, 65, 66, 67, 68, 69, 70, 71, 72, 73, 74]
set_option maxRecDepth 20000 in
theorem rhoA_eq (σ : List AE) (as : List Value) (k : List Nat → Prop) (f s t f1 s1 t1 f2 s2 t2 tb f3 s3 t3 nu ln sp ls g ta pl : Nat → Int32) (pf ps pt : Nat → Nat → Int32) (fi hz ks tz ra rf rt la lb lc mp mv mk mo my mw ma ml ak dy br ad dp lm rs len : Int32) : σ = (wA f s t f1 s1 t1 f2 s2 t2 tb f3 s3 t3 nu ln sp ls g ta pl pf ps pt fi hz ks tz ra rf rt la lb lc mp mv mk mo my mw ma ml ak dy br ad dp lm rs len) → z_rho σ (.ref 0 :: as) pA k = k rhoA := by
  rintro rfl
  rfl
theorem okrA : z_okr rhoA 75 = true := by decide +kernel
theorem okrB (L : LC) (as rest : List Value) (f s t f1 s1 t1 f2 s2 t2 tb f3 s3 t3 nu ln sp ls g ta pl : Nat → Int32) (pf ps pt : Nat → Nat → Int32) (fi hz ks tz ra rf rt la lb lc mp mv mk mo my mw ma ml ak dy br ad dp lm rs len : Int32) : (z_okr rhoA (List.length (wA f s t f1 s1 t1 f2 s2 t2 tb f3 s3 t3 nu ln sp ls g ta pl pf ps pt fi hz ks tz ra rf rt la lb lc mp mv mk mo my mw ma ml ak dy br ad dp lm rs len)) && (Nat.blt rhoA.length 1000 && z_okA 0 L as rest (wA f s t f1 s1 t1 f2 s2 t2 tb f3 s3 t3 nu ln sp ls g ta pl pf ps pt fi hz ks tz ra rf rt la lb lc mp mv mk mo my mw ma ml ak dy br ad dp lm rs len))) = true := by
  have e : List.length (wA f s t f1 s1 t1 f2 s2 t2 tb f3 s3 t3 nu ln sp ls g ta pl pf ps pt fi hz ks tz ra rf rt la lb lc mp mv mk mo my mw ma ml ak dy br ad dp lm rs len) = 75 := rfl
  rw [e, okrA]; rfl
set_option maxRecDepth 20000 in
theorem lwA (k : List AE → Prop) (f s t f1 s1 t1 f2 s2 t2 tb f3 s3 t3 nu ln sp ls g ta pl : Nat → Int32) (pf ps pt : Nat → Nat → Int32) (fi hz ks tz ra rf rt la lb lc mp mv mk mo my mw ma ml ak dy br ad dp lm rs len : Int32) : z_lw (wA f s t f1 s1 t1 f2 s2 t2 tb f3 s3 t3 nu ln sp ls g ta pl pf ps pt fi hz ks tz ra rf rt la lb lc mp mv mk mo my mw ma ml ak dy br ad dp lm rs len) rhoA rhoA k = k (wA f s t f1 s1 t1 f2 s2 t2 tb f3 s3 t3 nu ln sp ls g ta pl pf ps pt fi hz ks tz ra rf rt la lb lc mp mv mk mo my mw ma ml ak dy br ad dp lm rs len) := rfl
set_option maxRecDepth 20000 in
theorem wbA (k : List AE → Prop) (σ : List AE) (f s t f1 s1 t1 f2 s2 t2 tb f3 s3 t3 nu ln sp ls g ta pl : Nat → Int32) (pf ps pt : Nat → Nat → Int32) (fi hz ks tz ra rf rt la lb lc mp mv mk mo my mw ma ml ak dy br ad dp lm rs len : Int32) (hσ : ∃ (f_ s_ t_ f1_ s1_ t1_ f2_ s2_ t2_ tb_ f3_ s3_ t3_ nu_ ln_ sp_ ls_ g_ ta_ pl_ : Nat → Int32) (pf_ ps_ pt_ : Nat → Nat → Int32) (fi_ hz_ ks_ tz_ ra_ rf_ rt_ la_ lb_ lc_ mp_ mv_ mk_ mo_ my_ mw_ ma_ ml_ ak_ dy_ br_ ad_ dp_ lm_ rs_ len_ : Int32), σ = (wA f_ s_ t_ f1_ s1_ t1_ f2_ s2_ t2_ tb_ f3_ s3_ t3_ nu_ ln_ sp_ ls_ g_ ta_ pl_ pf_ ps_ pt_ fi_ hz_ ks_ tz_ ra_ rf_ rt_ la_ lb_ lc_ mp_ mv_ mk_ mo_ my_ mw_ ma_ ml_ ak_ dy_ br_ ad_ dp_ lm_ rs_ len_)) : z_wbK (z_fwK rhoA 1000) rhoA σ (wA f s t f1 s1 t1 f2 s2 t2 tb f3 s3 t3 nu ln sp ls g ta pl pf ps pt fi hz ks tz ra rf rt la lb lc mp mv mk mo my mw ma ml ak dy br ad dp lm rs len) k = k (wA f s t f1 s1 t1 f2 s2 t2 tb f3 s3 t3 nu ln sp ls g ta pl pf ps pt fi hz ks tz ra rf rt la lb lc mp mv mk mo my mw ma ml ak dy br ad dp lm rs len) := by
  obtain ⟨f_, s_, t_, f1_, s1_, t1_, f2_, s2_, t2_, tb_, f3_, s3_, t3_, nu_, ln_, sp_, ls_, g_, ta_, pl_, pf_, ps_, pt_, fi_, hz_, ks_, tz_, ra_, rf_, rt_, la_, lb_, lc_, mp_, mv_, mk_, mo_, my_, mw_, ma_, ml_, ak_, dy_, br_, ad_, dp_, lm_, rs_, len_, rfl⟩ := hσ
  rfl
set_option maxRecDepth 20000 in
theorem callA {l : Launch} {rk MC MS j : Nat} {L : LC} {args : List Value} {rest : List Value} {f s t f1 s1 t1 f2 s2 t2 tb f3 s3 t3 nu ln sp ls g ta pl : Nat → Int32} {pf ps pt : Nat → Nat → Int32} {fi hz ks tz ra rf rt la lb lc mp mv mk mo my mw ma ml ak dy br ad dp lm rs len : Int32} {ce sl : Nat} {k : List Value → List AE → Nat → Nat → Prop} {rk0 : Nat} {tr : Tr} (ha : ∀ k, z_vsK (z_ivK rhoA) (.ref 0 :: args) k = k (.ref 0 :: args)) (hv : z_V l j (rk0, 0, 0, pA, tr)) (hr : rk0 < rk) (hb : (Nat.ble (ce + 0) MC && (Nat.ble (sl + 0) MS && Nat.ble (z_cs rest) 8)) = true) (h : tr (.ref 0 :: args) (wA f s t f1 s1 t1 f2 s2 t2 tb f3 s3 t3 nu ln sp ls g ta pl pf ps pt fi hz ks tz ra rf rt la lb lc mp mv mk mo my mw ma ml ak dy br ad dp lm rs len) (z_kk 0 0 1000 rhoA rest (wA f s t f1 s1 t1 f2 s2 t2 tb f3 s3 t3 nu ln sp ls g ta pl pf ps pt fi hz ks tz ra rf rt la lb lc mp mv mk mo my mw ma ml ak dy br ad dp lm rs len) ce sl k)) : z_call l rk MC MS j L (.ref 0 :: args) rest (wA f s t f1 s1 t1 f2 s2 t2 tb f3 s3 t3 nu ln sp ls g ta pl pf ps pt fi hz ks tz ra rf rt la lb lc mp mv mk mo my mw ma ml ak dy br ad dp lm rs len) ce sl k := by
  refine ⟨(rk0, 0, 0, pA, tr), hv, hr, ?_⟩
  split
  · rw [rhoA_eq _ _ _ f s t f1 s1 t1 f2 s2 t2 tb f3 s3 t3 nu ln sp ls g ta pl pf ps pt fi hz ks tz ra rf rt la lb lc mp mv mk mo my mw ma ml ak dy br ad dp lm rs len rfl]
    split
    · rw [lwA]
      rw [ha]
      exact h
    · next he => exact Bool.noConfusion (he.symm.trans (okrB L (.ref 0 :: args) rest f s t f1 s1 t1 f2 s2 t2 tb f3 s3 t3 nu ln sp ls g ta pl pf ps pt fi hz ks tz ra rf rt la lb lc mp mv mk mo my mw ma ml ak dy br ad dp lm rs len))
  · next he => exact Bool.noConfusion (he.symm.trans hb)
/-! behind such a call -/
set_option maxRecDepth 20000 in
theorem kkA0 (x : Int32) (rest : List Value) (σ σl : List AE) (ce sl : Nat) (k : List Value → List AE → Nat → Nat → Prop) : z_kk 0 0 1000 rhoA rest σ ce sl k (some (.int x)) (some σl) = z_wbK (z_fwK rhoA 1000) rhoA σ σl (fun σ => k ((.int x) :: rest) σ ce (sl + 0)) := by
  unfold z_kk z_pushK z_cvK
  rfl
set_option maxRecDepth 20000 in
theorem kkA {rest : List Value} {σ : List AE} {ce sl : Nat} {k : List Value → List AE → Nat → Nat → Prop} {x : Int32} {σ' : List AE} (hσ : ∃ (f s t f1 s1 t1 f2 s2 t2 tb f3 s3 t3 nu ln sp ls g ta pl : Nat → Int32) (pf ps pt : Nat → Nat → Int32) (fi hz ks tz ra rf rt la lb lc mp mv mk mo my mw ma ml ak dy br ad dp lm rs len : Int32), σ = (wA f s t f1 s1 t1 f2 s2 t2 tb f3 s3 t3 nu ln sp ls g ta pl pf ps pt fi hz ks tz ra rf rt la lb lc mp mv mk mo my mw ma ml ak dy br ad dp lm rs len)) (hσ' : ∃ (f s t f1 s1 t1 f2 s2 t2 tb f3 s3 t3 nu ln sp ls g ta pl : Nat → Int32) (pf ps pt : Nat → Nat → Int32) (fi hz ks tz ra rf rt la lb lc mp mv mk mo my mw ma ml ak dy br ad dp lm rs len : Int32), σ' = (wA f s t f1 s1 t1 f2 s2 t2 tb f3 s3 t3 nu ln sp ls g ta pl pf ps pt fi hz ks tz ra rf rt la lb lc mp mv mk mo my mw ma ml ak dy br ad dp lm rs len)) (h : k ((.int x) :: rest) σ' ce sl) : z_kk 0 0 1000 rhoA rest σ ce sl k (some (.int x)) (some σ') := by
  obtain ⟨f, s, t, f1, s1, t1, f2, s2, t2, tb, f3, s3, t3, nu, ln, sp, ls, g, ta, pl, pf, ps, pt, fi, hz, ks, tz, ra, rf, rt, la, lb, lc, mp, mv, mk, mo, my, mw, ma, ml, ak, dy, br, ad, dp, lm, rs, len, rfl⟩ := hσ'
  rw [kkA0, wbA _ σ f s t f1 s1 t1 f2 s2 t2 tb f3 s3 t3 nu ln sp ls g ta pl pf ps pt fi hz ks tz ra rf rt la lb lc mp mv mk mo my mw ma ml ak dy br ad dp lm rs len hσ]
  exact h
set_option maxRecDepth 20000 in
theorem kkL0 (x : Int64) (rest : List Value) (σ σl : List AE) (ce sl : Nat) (k : List Value → List AE → Nat → Nat → Prop) : z_kk 0 0 1000 rhoA rest σ ce sl k (some (.long x)) (some σl) = z_wbK (z_fwK rhoA 1000) rhoA σ σl (fun σ => k ((.long x) :: rest) σ ce (sl + 0)) := by
  unfold z_kk z_pushK z_cvK
  rfl
set_option maxRecDepth 20000 in
theorem kkL {rest : List Value} {σ : List AE} {ce sl : Nat} {k : List Value → List AE → Nat → Nat → Prop} {x : Int64} {σ' : List AE} (hσ : ∃ (f s t f1 s1 t1 f2 s2 t2 tb f3 s3 t3 nu ln sp ls g ta pl : Nat → Int32) (pf ps pt : Nat → Nat → Int32) (fi hz ks tz ra rf rt la lb lc mp mv mk mo my mw ma ml ak dy br ad dp lm rs len : Int32), σ = (wA f s t f1 s1 t1 f2 s2 t2 tb f3 s3 t3 nu ln sp ls g ta pl pf ps pt fi hz ks tz ra rf rt la lb lc mp mv mk mo my mw ma ml ak dy br ad dp lm rs len)) (hσ' : ∃ (f s t f1 s1 t1 f2 s2 t2 tb f3 s3 t3 nu ln sp ls g ta pl : Nat → Int32) (pf ps pt : Nat → Nat → Int32) (fi hz ks tz ra rf rt la lb lc mp mv mk mo my mw ma ml ak dy br ad dp lm rs len : Int32), σ' = (wA f s t f1 s1 t1 f2 s2 t2 tb f3 s3 t3 nu ln sp ls g ta pl pf ps pt fi hz ks tz ra rf rt la lb lc mp mv mk mo my mw ma ml ak dy br ad dp lm rs len)) (h : k ((.long x) :: rest) σ' ce sl) : z_kk 0 0 1000 rhoA rest σ ce sl k (some (.long x)) (some σ') := by
  obtain ⟨f, s, t, f1, s1, t1, f2, s2, t2, tb, f3, s3, t3, nu, ln, sp, ls, g, ta, pl, pf, ps, pt, fi, hz, ks, tz, ra, rf, rt, la, lb, lc, mp, mv, mk, mo, my, mw, ma, ml, ak, dy, br, ad, dp, lm, rs, len, rfl⟩ := hσ'
  rw [kkL0, wbA _ σ f s t f1 s1 t1 f2 s2 t2 tb f3 s3 t3 nu ln sp ls g ta pl pf ps pt fi hz ks tz ra rf rt la lb lc mp mv mk mo my mw ma ml ak dy br ad dp lm rs len hσ]
  exact h
set_option maxRecDepth 20000 in
theorem kkR0 (rest : List Value) (σ σl : List AE) (ce sl : Nat) (k : List Value → List AE → Nat → Nat → Prop) : z_kk 0 0 1000 rhoA rest σ ce sl k (some (.ref 65)) (some σl) = z_wbK (z_fwK rhoA 1000) rhoA σ σl (fun σ => k (.ref 65 :: rest) σ ce (sl + 0)) := by
  unfold z_kk z_pushK z_cvK
  rfl
set_option maxRecDepth 20000 in
theorem kkR {rest : List Value} {σ : List AE} {ce sl : Nat} {k : List Value → List AE → Nat → Nat → Prop} {σ' : List AE} (hσ : ∃ (f s t f1 s1 t1 f2 s2 t2 tb f3 s3 t3 nu ln sp ls g ta pl : Nat → Int32) (pf ps pt : Nat → Nat → Int32) (fi hz ks tz ra rf rt la lb lc mp mv mk mo my mw ma ml ak dy br ad dp lm rs len : Int32), σ = (wA f s t f1 s1 t1 f2 s2 t2 tb f3 s3 t3 nu ln sp ls g ta pl pf ps pt fi hz ks tz ra rf rt la lb lc mp mv mk mo my mw ma ml ak dy br ad dp lm rs len)) (hσ' : ∃ (f s t f1 s1 t1 f2 s2 t2 tb f3 s3 t3 nu ln sp ls g ta pl : Nat → Int32) (pf ps pt : Nat → Nat → Int32) (fi hz ks tz ra rf rt la lb lc mp mv mk mo my mw ma ml ak dy br ad dp lm rs len : Int32), σ' = (wA f s t f1 s1 t1 f2 s2 t2 tb f3 s3 t3 nu ln sp ls g ta pl pf ps pt fi hz ks tz ra rf rt la lb lc mp mv mk mo my mw ma ml ak dy br ad dp lm rs len)) (h : k ((.ref 65) :: rest) σ' ce sl) : z_kk 0 0 1000 rhoA rest σ ce sl k (some (.ref 65)) (some σ') := by
  obtain ⟨f, s, t, f1, s1, t1, f2, s2, t2, tb, f3, s3, t3, nu, ln, sp, ls, g, ta, pl, pf, ps, pt, fi, hz, ks, tz, ra, rf, rt, la, lb, lc, mp, mv, mk, mo, my, mw, ma, ml, ak, dy, br, ad, dp, lm, rs, len, rfl⟩ := hσ'
  rw [kkR0, wbA _ σ f s t f1 s1 t1 f2 s2 t2 tb f3 s3 t3 nu ln sp ls g ta pl pf ps pt fi hz ks tz ra rf rt la lb lc mp mv mk mo my mw ma ml ak dy br ad dp lm rs len hσ]
  exact h
set_option maxRecDepth 20000 in
theorem kkV0 (rest : List Value) (σ σl : List AE) (ce sl : Nat) (k : List Value → List AE → Nat → Nat → Prop) : z_kk 0 0 1000 rhoA rest σ ce sl k none (some σl) = z_wbK (z_fwK rhoA 1000) rhoA σ σl (fun σ => k rest σ ce (sl + 0)) := by
  unfold z_kk z_pushK
  rfl
set_option maxRecDepth 20000 in
theorem kkV {rest : List Value} {σ : List AE} {ce sl : Nat} {k : List Value → List AE → Nat → Nat → Prop} {σ' : List AE} (hσ : ∃ (f s t f1 s1 t1 f2 s2 t2 tb f3 s3 t3 nu ln sp ls g ta pl : Nat → Int32) (pf ps pt : Nat → Nat → Int32) (fi hz ks tz ra rf rt la lb lc mp mv mk mo my mw ma ml ak dy br ad dp lm rs len : Int32), σ = (wA f s t f1 s1 t1 f2 s2 t2 tb f3 s3 t3 nu ln sp ls g ta pl pf ps pt fi hz ks tz ra rf rt la lb lc mp mv mk mo my mw ma ml ak dy br ad dp lm rs len)) (hσ' : ∃ (f s t f1 s1 t1 f2 s2 t2 tb f3 s3 t3 nu ln sp ls g ta pl : Nat → Int32) (pf ps pt : Nat → Nat → Int32) (fi hz ks tz ra rf rt la lb lc mp mv mk mo my mw ma ml ak dy br ad dp lm rs len : Int32), σ' = (wA f s t f1 s1 t1 f2 s2 t2 tb f3 s3 t3 nu ln sp ls g ta pl pf ps pt fi hz ks tz ra rf rt la lb lc mp mv mk mo my mw ma ml ak dy br ad dp lm rs len)) (h : k rest σ' ce sl) : z_kk 0 0 1000 rhoA rest σ ce sl k none (some σ') := by
  obtain ⟨f, s, t, f1, s1, t1, f2, s2, t2, tb, f3, s3, t3, nu, ln, sp, ls, g, ta, pl, pf, ps, pt, fi, hz, ks, tz, ra, rf, rt, la, lb, lc, mp, mv, mk, mo, my, mw, ma, ml, ak, dy, br, ad, dp, lm, rs, len, rfl⟩ := hσ'
  rw [kkV0, wbA _ σ f s t f1 s1 t1 f2 s2 t2 tb f3 s3 t3 nu ln sp ls g ta pl pf ps pt fi hz ks tz ra rf rt la lb lc mp mv mk mo my mw ma ml ak dy br ad dp lm rs len hσ]
  exact h
set_option maxRecDepth 20000 in
theorem isW {f s t f1 s1 t1 f2 s2 t2 tb f3 s3 t3 nu ln sp ls g ta pl : Nat → Int32} {pf ps pt : Nat → Nat → Int32} {fi hz ks tz ra rf rt la lb lc mp mv mk mo my mw ma ml ak dy br ad dp lm rs len : Int32} : ∃ (f_ s_ t_ f1_ s1_ t1_ f2_ s2_ t2_ tb_ f3_ s3_ t3_ nu_ ln_ sp_ ls_ g_ ta_ pl_ : Nat → Int32) (pf_ ps_ pt_ : Nat → Nat → Int32) (fi_ hz_ ks_ tz_ ra_ rf_ rt_ la_ lb_ lc_ mp_ mv_ mk_ mo_ my_ mw_ ma_ ml_ ak_ dy_ br_ ad_ dp_ lm_ rs_ len_ : Int32), (wA f s t f1 s1 t1 f2 s2 t2 tb f3 s3 t3 nu ln sp ls g ta pl pf ps pt fi hz ks tz ra rf rt la lb lc mp mv mk mo my mw ma ml ak dy br ad dp lm rs len) = (wA f_ s_ t_ f1_ s1_ t1_ f2_ s2_ t2_ tb_ f3_ s3_ t3_ nu_ ln_ sp_ ls_ g_ ta_ pl_ pf_ ps_ pt_ fi_ hz_ ks_ tz_ ra_ rf_ rt_ la_ lb_ lc_ mp_ mv_ mk_ mo_ my_ mw_ ma_ ml_ ak_ dy_ br_ ad_ dp_ lm_ rs_ len_) := ⟨_, _, _, _, _, _, _, _, _, _, _, _, _, _, _, _, _, _, _, _, _, _, _, _, _, _, _, _, _, _, _, _, _, _, _, _, _, _, _, _, _, _, _, _, _, _, _, _, _, rfl⟩
/-- what a run of calls leaves: the order with its requests, those before, the shelves, the tape -/
abbrev St : Type := Od × List Od × (Option Od × Option Od) × (Nat × (Nat → Int32))
def kmask (k : Option Od × Option Od) : Nat := (if k.1.isSome then 1 else 0) + (if k.2.isSome then 2 else 0)
def OKS (S : St) : Prop := OKM S.1 ∧ (∀ M ∈ S.2.1, OKM M) ∧ S.2.1.length ≤ 10 ∧ (∀ M, S.2.2.1.1 = some M → OKM M) ∧ (∀ M, S.2.2.1.2 = some M → OKM M) ∧ S.2.2.2.1 ≤ 400
def AR (S : St) (f s t f1 s1 t1 f2 s2 t2 tb : Nat → Int32) (pf ps pt : Nat → Nat → Int32) (fi hz ks tz : Int32) : Prop :=
  RS f s t S.1 ∧ (∃ q : Nat, fi = iI q ∧ PR pf ps pt q S.2.1) ∧ hz = iI S.2.1.length ∧ ks = iI (kmask S.2.2.1 : Nat) ∧ (∀ M, S.2.2.1.1 = some M → RS f1 s1 t1 M) ∧ (∀ M, S.2.2.1.2 = some M → RS f2 s2 t2 M) ∧ tz = iI S.2.2.2.1 ∧ ∀ i, i < S.2.2.2.1 → tb i = S.2.2.2.2 i
def isA (S : St) (σ : List AE) : Prop := OKS S ∧ ∃ (f s t f1 s1 t1 f2 s2 t2 tb f3 s3 t3 nu ln sp ls g ta pl : Nat → Int32) (pf ps pt : Nat → Nat → Int32) (fi hz ks tz ra rf rt la lb lc mp mv mk mo my mw ma ml ak dy br ad dp lm rs len : Int32), σ = (wA f s t f1 s1 t1 f2 s2 t2 tb f3 s3 t3 nu ln sp ls g ta pl pf ps pt fi hz ks tz ra rf rt la lb lc mp mv mk mo my mw ma ml ak dy br ad dp lm rs len) ∧ AR S f s t f1 s1 t1 f2 s2 t2 tb pf ps pt fi hz ks tz
theorem isA.w {S : St} {σ : List AE} (h : isA S σ) : ∃ (f s t f1 s1 t1 f2 s2 t2 tb f3 s3 t3 nu ln sp ls g ta pl : Nat → Int32) (pf ps pt : Nat → Nat → Int32) (fi hz ks tz ra rf rt la lb lc mp mv mk mo my mw ma ml ak dy br ad dp lm rs len : Int32), σ = (wA f s t f1 s1 t1 f2 s2 t2 tb f3 s3 t3 nu ln sp ls g ta pl pf ps pt fi hz ks tz ra rf rt la lb lc mp mv mk mo my mw ma ml ak dy br ad dp lm rs len) := by
  obtain ⟨_, f, s, t, f1, s1, t1, f2, s2, t2, tb, f3, s3, t3, nu, ln, sp, ls, g, ta, pl, pf, ps, pt, fi, hz, ks, tz, ra, rf, rt, la, lb, lc, mp, mv, mk, mo, my, mw, ma, ml, ak, dy, br, ad, dp, lm, rs, len, h, _⟩ := h
  exact ⟨_, _, _, _, _, _, _, _, _, _, _, _, _, _, _, _, _, _, _, _, _, _, _, _, _, _, _, _, _, _, _, _, _, _, _, _, _, _, _, _, _, _, _, _, _, _, _, _, _, h⟩
theorem isA.mk {S : St} {f s t f1 s1 t1 f2 s2 t2 tb f3 s3 t3 nu ln sp ls g ta pl : Nat → Int32} {pf ps pt : Nat → Nat → Int32} {fi hz ks tz ra rf rt la lb lc mp mv mk mo my mw ma ml ak dy br ad dp lm rs len : Int32} (h1 : OKS S) (h2 : AR S f s t f1 s1 t1 f2 s2 t2 tb pf ps pt fi hz ks tz) : isA S (wA f s t f1 s1 t1 f2 s2 t2 tb f3 s3 t3 nu ln sp ls g ta pl pf ps pt fi hz ks tz ra rf rt la lb lc mp mv mk mo my mw ma ml ak dy br ad dp lm rs len) := ⟨h1, _, _, _, _, _, _, _, _, _, _, _, _, _, _, _, _, _, _, _, _, _, _, _, _, _, _, _, _, _, _, _, _, _, _, _, _, _, _, _, _, _, _, _, _, _, _, _, _, _, rfl, h2⟩
/-- a contract of the class: answer and next state -/
def spA (rk : Nat) (P : St → List Value → (Option Value → St → Prop) → Prop) : Sp := (rk, 0, 0, pA, fun as σ K => ∃ S, isA S σ ∧ P S as (fun r S' => ∀ σ', isA S' σ' → K r (some σ')))
def mtR (M : Od) (r : Nat) : Mt := (M.2.1 5 r 0, M.2.1 5 r 2, M.2.1 5 r 3, -1, -1)
theorem mtR_ok {M : Od} (hO : OKM M) {r : Nat} (hr : r < M.1 5) : mOK (mtR M r) := by
  have h := hO.2.2.2.2.2.1 r hr
  unfold mOK ir mtR mP mV mK mA mL
  refine ⟨⟨?_, ?_⟩, ⟨?_, ?_⟩, ?_, ?_, ⟨?_, ?_⟩, ⟨?_, ?_⟩⟩ <;> (try simp only []) <;> omega
/-- the whole of a request, were it asked on a day -/
noncomputable def whF (M : Od) (r : Nat) (y : Int) : Int := M.2.1 5 r 4 + amt M (jm M r y) (M.1 5)
theorem jm62 {M : Od} (hO : OKM M) {r : Nat} (hr : r < M.1 5) (y : Int) : jm M r y < 2 ^ 62 := by
  have h5 := hO.2.2.2.2.2.2.2.2.2 5 (by omega)
  rw [x_5] at h5
  exact Nat.lt_of_lt_of_le (jm_lt M r y) (Nat.pow_le_pow_right (by decide) (by omega))
theorem whF_rng {M : Od} (hO : OKM M) {r : Nat} (hr : r < M.1 5) (y : Int) : 1 ≤ whF M r y ∧ whF M r y ≤ 500000 := by
  have h5 := hO.2.2.2.2.2.2.2.2.2 5 (by omega)
  rw [x_5] at h5
  have h := hO.2.2.2.2.2.1 r hr
  have := amt_rng hO (jm M r y) (n := M.1 5) (Nat.le_refl _)
  unfold whF
  omega
def sp_wholeOn : Sp := (3, 0, 0, pA, fun as σ K => ∃ (f s t f1 s1 t1 f2 s2 t2 tb f3 s3 t3 nu ln sp ls g ta pl : Nat → Int32) (pf ps pt : Nat → Nat → Int32) (fi hz ks tz ra rf rt la lb lc mp mv mk mo my mw ma ml ak dy br ad dp lm rs len : Int32) (M : Od) (r : Nat) (y : Int), as = [.ref 0, .int (iI r), .int (iI y)] ∧ σ = (wA f s t f1 s1 t1 f2 s2 t2 tb f3 s3 t3 nu ln sp ls g ta pl pf ps pt fi hz ks tz ra rf rt la lb lc mp mv mk mo my mw ma ml ak dy br ad dp lm rs len) ∧ RS f s t M ∧ OKM M ∧ r < M.1 5 ∧ 0 ≤ y ∧ y ≤ 999 ∧ K (some (.int (iI (whF M r y)))) none)
set_option maxRecDepth 20000 in
theorem v_wholeOn (l : Launch) : z_V l 134 sp_wholeOn := by
  refine z_V.ofP (by decide +kernel) ?_
  rintro as σ K Post ⟨f, s, t, f1, s1, t1, f2, s2, t2, tb, f3, s3, t3, nu, ln, sp, ls, g, ta, pl, pf, ps, pt, fi, hz, ks, tz, ra, rf, rt, la, lb, lc, mp, mv, mk, mo, my, mw, ma, ml, ak, dy, br, ad, dp, lm, rs, len, M, r, y, rfl, rfl, hR, hO, hr, y0, y1, hK⟩ hP1 hP0
  refine AW.go (bs := b_Appr_wholeOn) [] 60 t_Appr_wholeOn ?_
  refine ⟨_, v_cell l, by decide, f, s, t, rfl, M, 5, r, 4, rfl, hR, by omega, hr, by decide, ?_⟩
  refine ⟨_, v_joinedBits l, by decide, f, s, t, rfl, M, r, y, rfl, hR, hO, hr, y0, y1, ?_⟩
  refine ⟨_, v_amountOf l, by decide, f, s, t, rfl, M, jm M r y, rfl, hR, hO, jm62 hO hr y, ?_⟩
  show Post _ _
  rw [iI_add]
  exact hP0 _ hK
def sp_matterOf : Sp := (4, 0, 0, pA, fun as σ K => ∃ (f s t f1 s1 t1 f2 s2 t2 tb f3 s3 t3 nu ln sp ls g ta pl : Nat → Int32) (pf ps pt : Nat → Nat → Int32) (fi hz ks tz ra rf rt la lb lc mp mv mk mo my mw ma ml ak dy br ad dp lm rs len : Int32) (M : Od) (r : Nat), as = [.ref 0, .int (iI r)] ∧ σ = (wA f s t f1 s1 t1 f2 s2 t2 tb f3 s3 t3 nu ln sp ls g ta pl pf ps pt fi hz ks tz ra rf rt la lb lc mp mv mk mo my mw ma ml ak dy br ad dp lm rs len) ∧ RS f s t M ∧ OKM M ∧ r < M.1 5 ∧ K (some (.ref 65)) (some (wA f s t f1 s1 t1 f2 s2 t2 tb f3 s3 t3 nu ln sp ls g ta pl pf ps pt fi hz ks tz ra rf rt la lb lc (iI (M.2.1 5 r 0)) (iI (M.2.1 5 r 2)) (iI (M.2.1 5 r 3)) (iI (M.2.1 5 r 1)) (iI (M.2.1 5 r 5)) (iI (whF M r (M.2.1 5 r 5))) (iI (-1)) (iI (-1)) ak dy br ad dp lm rs len)))
set_option maxRecDepth 20000 in
theorem v_matterOf (l : Launch) : z_V l 135 sp_matterOf := by
  refine z_V.ofP (by decide +kernel) ?_
  rintro as σ K Post ⟨f, s, t, f1, s1, t1, f2, s2, t2, tb, f3, s3, t3, nu, ln, sp, ls, g, ta, pl, pf, ps, pt, fi, hz, ks, tz, ra, rf, rt, la, lb, lc, mp, mv, mk, mo, my, mw, ma, ml, ak, dy, br, ad, dp, lm, rs, len, M, r, rfl, rfl, hR, hO, hr, hK⟩ hP1 hP0
  have hc := hO.2.2.2.2.2.1 r hr
  refine AW.go (bs := b_Appr_matterOf) [] 60 t_Appr_matterOf ?_
  refine ⟨_, v_cell l, by decide, f, s, t, rfl, M, 5, r, 0, rfl, hR, by omega, hr, by decide, ?_⟩
  refine ⟨_, v_cell l, by decide, f, s, t, rfl, M, 5, r, 2, rfl, hR, by omega, hr, by decide, ?_⟩
  refine ⟨_, v_cell l, by decide, f, s, t, rfl, M, 5, r, 3, rfl, hR, by omega, hr, by decide, ?_⟩
  refine ⟨_, v_begin l, by decide, mp, mv, mk, mo, my, mw, ma, ml, _, _, _, rfl, rfl, ?_⟩
  refine ⟨_, v_cell l, by decide, f, s, t, rfl, M, 5, r, 1, rfl, hR, by omega, hr, by decide, ?_⟩
  refine ⟨_, v_cell l, by decide, f, s, t, rfl, M, 5, r, 5, rfl, hR, by omega, hr, by decide, ?_⟩
  show ∃ sp : Sp, _
  refine callA (fun _ => rfl) (v_wholeOn l) (by decide) rfl ⟨_, _, _, _, _, _, _, _, _, _, _, _, _, _, _, _, _, _, _, _, _, _, _, _, _, _, _, _, _, _, _, _, _, _, _, _, _, _, _, _, _, _, _, _, _, _, _, _, _, M, r, M.2.1 5 r 5, rfl, rfl, hR, hO, hr, by omega, by omega, ?_⟩
  exact hP1 _ _ hK
/-- the route of a request, its whole -/
noncomputable def wq (M : Od) (r : Nat) : Int := whF M r (M.2.1 5 r 5)
noncomputable def rq (M : Od) (r : Nat) : List SE := routeF M (mtR M r) (wq M r) 12 (M.2.1 5 r 1) (M.2.1 5 r 5)
