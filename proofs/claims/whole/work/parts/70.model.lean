/-! THE MODEL's world: the object, its rows -/
def wMd (now was kept isk ln sp ls ld tb rd : Nat → Int32) (und gon lef ak vn dy asd lma lim rea sts apr tz spo wro num nuA stl spe wan fou : Int32) : List AE := [.inr (.inr (10, [.ref 1, .ref 2, .int und, .ref 3, .ref 4, .int gon, .int lef, .int ak, .int vn, .int dy, .int asd, .ref 5, .int lma, .int lim, .int rea, .ref 6, .ref 7, .int sts, .int apr, .ref 8, .ref 9, .int tz, .int spo, .int wro, .int num, .int nuA, .ref 10, .int stl, .int spe, .int wan, .int fou])),
  .inl (0, 657, now), .inl (0, 6570, was), .inl (0, 1314, kept), .inl (2, 2, isk), .inl (0, 16, ln), .inl (0, 72, sp), .inl (0, 192, ls), .inl (0, 48, ld), .inl (1, 400, tb), .inl (0, 657, rd)]
def pMd : List (Nat × List Nat) := [(0, []), (0, [0]), (0, [1]), (0, [3]), (0, [4]), (0, [11]), (0, [15]), (0, [16]), (0, [19]), (0, [20]), (0, [26])]
def mB (d : Nat) : Nat := [57, 153, 225, 345, 9, 377].getD d 0
def mS (d : Nat) : Nat := [1, 2, 3, 4, 0, 8].getD d 0
def mi (d k c : Nat) : Nat := mB d + oW d * k + c
/-- how a cell stands in the model's row: no post above is -1 there -/
def mVal (d c : Nat) (x : Int) : Int := if d = 4 ∧ c = 0 ∧ x = -2 then -1 else x
def RM (row : Nat → Int32) (M : Od) : Prop := (∀ d, d < 6 → row (mS d) = iI (M.1 d : Nat) ∧ M.1 d ≤ oX d) ∧ (∀ d k c, d < 6 → k < M.1 d → c < oW d → row (mi d k c) = iI (mVal d c (M.2.1 d k c))) ∧ ∀ w, w < 3 → row (5 + w) = iI (M.2.2 w : Nat)
/-- a method of the model that only reads -/
def spN (rk : Nat) (P : Od → Int32 → Int32 → Int32 → Int32 → Int32 → List Value → (Option Value → Prop) → Prop) : Sp := (rk, 0, 0, pMd, fun as σ K => ∃ (now was kept isk ln sp ls ld tb rd : Nat → Int32) (und gon lef ak vn dy asd lma lim rea sts apr tz spo wro num nuA stl spe wan fou : Int32) (M : Od), σ = (wMd now was kept isk ln sp ls ld tb rd und gon lef ak vn dy asd lma lim rea sts apr tz spo wro num nuA stl spe wan fou) ∧ RM now M ∧ OKM M ∧ P M gon lef ak vn dy as (fun r => K r none))
theorem RM.size {row : Nat → Int32} {M : Od} (h : RM row M) (d : Nat) (hd : d < 6) : row (mS d) = iI (M.1 d : Nat) := (h.1 d hd).1
theorem mi_lt {M : Od} (hO : OKM M) {d k c : Nat} (hd : d < 6) (hk : k < M.1 d) (hc : c < oW d) : mi d k c < 657 := by
  have hx := hO.2.2.2.2.2.2.2.2.2 d hd
  rcases d6 hd with rfl | rfl | rfl | rfl | rfl | rfl <;> simp only [mi, w_0, w_1, w_2, w_3, w_4, w_5, x_0, x_1, x_2, x_3, x_4, x_5] at * <;> simp [mB] <;> omega
theorem OKM.mx {M : Od} (hO : OKM M) (d : Nat) (hd : d < 6) : M.1 d ≤ 40 := Nat.le_trans (hO.2.2.2.2.2.2.2.2.2 d hd) (oX_le d)
def sp_in : Sp := sp0 0 (fun as K => ∃ (v a b : Int) (x y z : Int64), as = [.long x, .long y, .long z] ∧ x = lI v ∧ y = lI a ∧ z = lI b ∧ (-9000000000 ≤ v ∧ v ≤ 9000000000) ∧ (-9000000000 ≤ a ∧ a ≤ 9000000000) ∧ (-9000000000 ≤ b ∧ b ≤ 9000000000) ∧ K (some (.int (bI (decide (a ≤ v ∧ v ≤ b))))))
set_option maxRecDepth 20000 in
theorem v_in (l : Launch) : z_V l 148 sp_in := by
  refine z_V.ofP (by decide +kernel) ?_
  rintro as σ K Post ⟨rfl, v, a, b, x, y, z, rfl, rfl, rfl, rfl, ⟨v1, v2⟩, ⟨a1, a2⟩, ⟨b1, b2⟩, hK⟩ hP1 hP0
  refine AW.go (bs := b_Mod_in) [] 60 t_Mod_in ?_
  refine And.intro (fun h => ?_) (fun h => ?_)
  · have h := (lI_lt (by omega) (by omega) (by omega) (by omega)).mp ((lg_lt0 _ _).mp h)
    rw [decide_eq_false (by omega)] at hK
    exact And.intro (Or.inl rfl) (hP0 _ hK)
  have h := mt (fun q => (lg_lt0 _ _).mpr ((lI_lt (a := v) (b := a) (by omega) (by omega) (by omega) (by omega)).mpr q)) h
  refine And.intro (fun h2 => ?_) (fun h2 => ?_)
  · have h2 := (lI_lt (by omega) (by omega) (by omega) (by omega)).mp ((lg_0lt _ _).mp h2)
    rw [decide_eq_false (by omega)] at hK
    exact And.intro (Or.inl rfl) (hP0 _ hK)
  have h2 := mt (fun q => (lg_0lt _ _).mpr ((lI_lt (a := b) (b := v) (by omega) (by omega) (by omega) (by omega)).mpr q)) h2
  rw [decide_eq_true (by omega)] at hK
  exact And.intro (Or.inr rfl) (hP0 _ hK)
/-- ints as longs -/
theorem l_i {a : Int} (h1 : -2147483648 ≤ a) (h2 : a ≤ 2147483647) : (iI a).toInt64 = lI a := lI_of h1 h2
theorem l_0 : lN (0 : Fin 2).val = lI 0 := lI_lN 0
theorem l_1 : lN (1 : Fin 2).val = lI 1 := lI_lN 1
theorem l_k (t : Nat) : k_lv t 2 = lI (t : Int) := lI_lN t
def sp_mhas : Sp := sp0 0 (fun as K => ∃ m j : Nat, as = [.int (iI m), .int (iI j)] ∧ m < 2147483648 ∧ j < 31 ∧ K (some (.int (bI (m.testBit j)))))
set_option maxRecDepth 20000 in
theorem v_mhas (l : Launch) : z_V l 149 sp_mhas := by
  refine z_V.ofP (by decide +kernel) ?_
  rintro as σ K Post ⟨rfl, m, j, rfl, hm, hj, hK⟩ hP1 hP0
  refine AW.go (bs := b_Mod_has) [] 60 t_Mod_has ?_
  show _ ∧ _
  rw [show z_nn 1 0 = iI 1 from rfl, zb_bit hm hj]
  refine And.intro (fun h => ?_) (fun h => ?_)
  · rw [zc_ne (by split <;> omega) (by split <;> omega) (by omega) (by omega)] at h
    have : m.testBit j = false := by
      cases hb : m.testBit j with
      | false => rfl
      | true => rw [hb] at h; simp at h
    rw [this] at hK
    exact And.intro (Or.inl rfl) (hP0 _ hK)
  · rw [zc_ne (by split <;> omega) (by split <;> omega) (by omega) (by omega), Classical.not_not] at h
    have : m.testBit j = true := by
      cases hb : m.testBit j with
      | true => rfl
      | false => rw [hb] at h; simp at h
    rw [this] at hK
    exact And.intro (Or.inr rfl) (hP0 _ hK)
def sp_mposts : Sp := spN 0 (fun M _ _ _ _ _ as K => as = [.ref 0] ∧ K (some (.int (iI (M.1 4 : Nat)))))
set_option maxRecDepth 20000 in
theorem v_mposts (l : Launch) : z_V l 150 sp_mposts := by
  refine z_V.ofP (by decide +kernel) ?_
  rintro as σ K Post ⟨now, was, kept, isk, ln, sp, ls, ld, tb, rd, und, gon, lef, ak, vn, dy, asd, lma, lim, rea, sts, apr, tz, spo, wro, num, nuA, stl, spe, wan, fou, M, rfl, hN, hO, rfl, hK⟩ hP1 hP0
  refine AW.go (bs := b_Mod_posts) [] 60 t_Mod_posts ?_
  refine And.intro (zn_in (by omega) (by omega)) ?_
  show Post _ _
  rw [zn_cl (by omega), show now 0 = iI (M.1 4 : Nat) from hN.size 4 (by omega)]
  exact hP0 _ hK
def sp_mrequests : Sp := spN 0 (fun M _ _ _ _ _ as K => as = [.ref 0] ∧ K (some (.int (iI (M.1 5 : Nat)))))
set_option maxRecDepth 20000 in
theorem v_mrequests (l : Launch) : z_V l 151 sp_mrequests := by
  refine z_V.ofP (by decide +kernel) ?_
  rintro as σ K Post ⟨now, was, kept, isk, ln, sp, ls, ld, tb, rd, und, gon, lef, ak, vn, dy, asd, lma, lim, rea, sts, apr, tz, spo, wro, num, nuA, stl, spe, wan, fou, M, rfl, hN, hO, rfl, hK⟩ hP1 hP0
  refine AW.go (bs := b_Mod_requests) [] 60 t_Mod_requests ?_
  refine And.intro (zn_in (by omega) (by omega)) ?_
  show Post _ _
  rw [zn_cl (by omega), show now 8 = iI (M.1 5 : Nat) from hN.size 5 (by omega)]
  exact hP0 _ hK
def spB (rk : Nat) (b : Od → Int → Bool) : Sp := spN rk (fun M _ _ _ _ _ as K => ∃ a : Int, as = [.ref 0, .int (iI a)] ∧ ir a ∧ K (some (.int (bI (b M a)))))
set_option maxRecDepth 20000 in
theorem v_misPost (l : Launch) : z_V l 152 (spB 1 (fun M a => decide (0 ≤ a ∧ a < M.1 4))) := by
  refine z_V.ofP (by decide +kernel) ?_
  rintro as σ K Post ⟨now, was, kept, isk, ln, sp, ls, ld, tb, rd, und, gon, lef, ak, vn, dy, asd, lma, lim, rea, sts, apr, tz, spo, wro, num, nuA, stl, spe, wan, fou, M, rfl, hN, hO, a, rfl, ⟨a1, a2⟩, hK⟩ hP1 hP0
  have hx := hO.mx 4 (by omega)
  refine AW.go (bs := b_Mod_isPost) [] 60 t_Mod_isPost ?_
  refine ⟨_, v_mposts l, by decide, _, _, _, _, _, _, _, _, _, _, _, _, _, _, _, _, _, _, _, _, _, _, _, _, _, _, _, _, _, _, _, M, rfl, hN, hO, rfl, ?_⟩
  show ∃ sp : Sp, _
  rw [zn_i 1, iI_sub]
  refine ⟨_, v_in l, by decide, rfl, a, 0, (M.1 4 : Int) - 1, _, _, _, rfl, l_i a1 a2, l_0, l_i (by omega) (by omega), ⟨by omega, by omega⟩, ⟨by omega, by omega⟩, ⟨by omega, by omega⟩, ?_⟩
  rw [show decide (0 ≤ a ∧ a ≤ (M.1 4 : Int) - 1) = decide (0 ≤ a ∧ a < M.1 4) from decide_eq_decide.mpr (by omega)]
  exact And.intro (bI_01 _) (hP0 _ hK)
set_option maxRecDepth 20000 in
theorem v_misRequest (l : Launch) : z_V l 153 (spB 1 (fun M a => decide (0 ≤ a ∧ a < M.1 5))) := by
  refine z_V.ofP (by decide +kernel) ?_
  rintro as σ K Post ⟨now, was, kept, isk, ln, sp, ls, ld, tb, rd, und, gon, lef, ak, vn, dy, asd, lma, lim, rea, sts, apr, tz, spo, wro, num, nuA, stl, spe, wan, fou, M, rfl, hN, hO, a, rfl, ⟨a1, a2⟩, hK⟩ hP1 hP0
  have hx := hO.mx 5 (by omega)
  refine AW.go (bs := b_Mod_isRequest) [] 60 t_Mod_isRequest ?_
  refine ⟨_, v_mrequests l, by decide, _, _, _, _, _, _, _, _, _, _, _, _, _, _, _, _, _, _, _, _, _, _, _, _, _, _, _, _, _, _, _, M, rfl, hN, hO, rfl, ?_⟩
  show ∃ sp : Sp, _
  rw [zn_i 1, iI_sub]
  refine ⟨_, v_in l, by decide, rfl, a, 0, (M.1 5 : Int) - 1, _, _, _, rfl, l_i a1 a2, l_0, l_i (by omega) (by omega), ⟨by omega, by omega⟩, ⟨by omega, by omega⟩, ⟨by omega, by omega⟩, ?_⟩
  rw [show decide (0 ≤ a ∧ a ≤ (M.1 5 : Int) - 1) = decide (0 ≤ a ∧ a < M.1 5) from decide_eq_decide.mpr (by omega)]
  exact And.intro (bI_01 _) (hP0 _ hK)
set_option maxRecDepth 20000 in
theorem v_misPerson (l : Launch) : z_V l 154 (spR 1 0 15) := by
  refine z_V.ofP (by decide +kernel) ?_
  rintro as σ K Post ⟨rfl, a, rfl, ⟨a1, a2⟩, hK⟩ hP1 hP0
  refine AW.go (bs := b_Mod_isPerson) [] 60 t_Mod_isPerson ?_
  refine ⟨_, v_in l, by decide, rfl, a, 0, 15, _, _, _, rfl, l_i a1 a2, l_0, l_k 15, ⟨by omega, by omega⟩, ⟨by omega, by omega⟩, ⟨by omega, by omega⟩, ?_⟩
  exact And.intro (bI_01 _) (hP0 _ hK)
set_option maxRecDepth 20000 in
theorem v_misDay (l : Launch) : z_V l 155 (spR 1 0 999) := by
  refine z_V.ofP (by decide +kernel) ?_
  rintro as σ K Post ⟨rfl, a, rfl, ⟨a1, a2⟩, hK⟩ hP1 hP0
  refine AW.go (bs := b_Mod_isDay) [] 60 t_Mod_isDay ?_
  refine ⟨_, v_in l, by decide, rfl, a, 0, 999, _, _, _, rfl, l_i a1 a2, l_0, l_k 999, ⟨by omega, by omega⟩, ⟨by omega, by omega⟩, ⟨by omega, by omega⟩, ?_⟩
  exact And.intro (bI_01 _) (hP0 _ hK)
set_option maxRecDepth 20000 in
theorem v_misWhich (l : Launch) : z_V l 192 (spR 1 0 29) := by
  refine z_V.ofP (by decide +kernel) ?_
  rintro as σ K Post ⟨rfl, a, rfl, ⟨a1, a2⟩, hK⟩ hP1 hP0
  refine AW.go (bs := b_Mod_isWhich) [] 60 t_Mod_isWhich ?_
  refine ⟨_, v_in l, by decide, rfl, a, 0, 29, _, _, _, rfl, l_i a1 a2, l_0, l_k 29, ⟨by omega, by omega⟩, ⟨by omega, by omega⟩, ⟨by omega, by omega⟩, ?_⟩
  exact And.intro (bI_01 _) (hP0 _ hK)
def sp_mareDays : Sp := sp0 2 (fun as K => ∃ a b : Int, as = [.int (iI a), .int (iI b)] ∧ ir a ∧ ir b ∧ K (some (.int (bI (dys a b)))))
set_option maxRecDepth 20000 in
theorem v_mareDays (l : Launch) : z_V l 156 sp_mareDays := by
  refine z_V.ofP (by decide +kernel) ?_
  rintro as σ K Post ⟨rfl, a, b, rfl, ⟨a1, a2⟩, ⟨b1, b2⟩, hK⟩ hP1 hP0
  unfold dys at hK
  refine AW.go (bs := b_Mod_areDays) [] 60 t_Mod_areDays ?_
  refine ⟨_, v_misDay l, by decide, rfl, a, rfl, ⟨a1, a2⟩, ?_⟩
  refine And.intro (fun h => ?_) (fun h => ?_)
  · rw [zc_beq, decide_eq_false_iff_not] at h
    rw [decide_eq_false (by omega)] at hK
    exact And.intro (Or.inl rfl) (hP0 _ hK)
  rw [zc_beq, decide_eq_false_iff_not, Classical.not_not] at h
  refine ⟨_, v_in l, by decide, rfl, b, a, 999, _, _, _, rfl, l_i b1 b2, l_i a1 a2, l_k 999, ⟨by omega, by omega⟩, ⟨by omega, by omega⟩, ⟨by omega, by omega⟩, ?_⟩
  refine And.intro (fun h => ?_) (fun h => ?_)
  · rw [zc_beq, decide_eq_false_iff_not] at h
    rw [decide_eq_false (by omega)] at hK
    exact And.intro (Or.inl rfl) (hP0 _ hK)
  rw [zc_beq, decide_eq_false_iff_not, Classical.not_not] at h
  rw [decide_eq_true (by omega)] at hK
  exact And.intro (Or.inr rfl) (hP0 _ hK)
/-- the post above: none is -1 -/
def upM (M : Od) (p : Nat) : Int := mVal 4 0 (M.2.1 4 p 0)
def sp_mupper : Sp := spN 0 (fun M _ _ _ _ _ as K => ∃ p : Nat, as = [.ref 0, .int (iI p)] ∧ p < M.1 4 ∧ K (some (.int (iI (upM M p)))))
set_option maxRecDepth 20000 in
theorem v_mupper (l : Launch) : z_V l 157 sp_mupper := by
  refine z_V.ofP (by decide +kernel) ?_
  rintro as σ K Post ⟨now, was, kept, isk, ln, sp, ls, ld, tb, rd, und, gon, lef, ak, vn, dy, asd, lma, lim, rea, sts, apr, tz, spo, wro, num, nuA, stl, spe, wan, fou, M, rfl, hN, hO, p, rfl, hp, hK⟩ hP1 hP0
  have hz := mi_lt hO (d := 4) (c := 0) (by omega) hp (by decide)
  have ei : z_nn 9 0 + z_nn 4 0 * iI (p : Int) = iI ((mi 4 p 0 : Nat) : Int) := by rw [zn_i, zn_i, iI_mul, iI_add]; rfl
  refine AW.go (bs := b_Mod_upper) [] 60 t_Mod_upper ?_
  show _ ∧ _
  rw [ei]
  refine And.intro (zN_in hz (by omega)) ?_
  show Post _ _
  rw [zN_cl (by omega), hN.2.1 4 p 0 (by omega) hp (by decide)]
  exact hP0 _ hK
def sp_mlimitOf : Sp := spN 0 (fun M _ _ _ _ _ as K => ∃ (p : Nat) (k : Nat) (x : Int32), as = [.ref 0, .int (iI p), .int x] ∧ x = iI (k : Int) ∧ p < M.1 4 ∧ k < 3 ∧ K (some (.int (iI (M.2.1 4 p (1 + k))))))
set_option maxRecDepth 20000 in
theorem v_mlimitOf (l : Launch) : z_V l 158 sp_mlimitOf := by
  refine z_V.ofP (by decide +kernel) ?_
  rintro as σ K Post ⟨now, was, kept, isk, ln, sp, ls, ld, tb, rd, und, gon, lef, ak, vn, dy, asd, lma, lim, rea, sts, apr, tz, spo, wro, num, nuA, stl, spe, wan, fou, M, rfl, hN, hO, p, k, x, rfl, rfl, hp, hk, hK⟩ hP1 hP0
  have hz := mi_lt hO (d := 4) (c := 1 + k) (by omega) hp (by rw [w_4]; omega)
  have ei : z_nn 9 0 + z_nn 4 0 * iI (p : Int) + z_nn 1 0 + iI (k : Int) = iI ((mi 4 p (1 + k) : Nat) : Int) := by
    rw [zn_i, zn_i, zn_i, iI_mul, iI_add, iI_add, iI_add]; congr 1; unfold mi mB oW; simp; omega
  refine AW.go (bs := b_Mod_limitOf) [] 60 t_Mod_limitOf ?_
  show _ ∧ _
  rw [ei]
  refine And.intro (zN_in hz (by omega)) ?_
  show Post _ _
  rw [zN_cl (by omega), hN.2.1 4 p (1 + k) (by omega) hp (by rw [w_4]; omega), mVal, if_neg (by omega)]
  exact hP0 _ hK
def sp_mof : Sp := spN 0 (fun M _ _ _ _ _ as K => ∃ (r c : Nat), as = [.ref 0, .int (iI r), .int (iI c)] ∧ r < M.1 5 ∧ c < 7 ∧ K (some (.int (iI (M.2.1 5 r c)))))
set_option maxRecDepth 20000 in
theorem v_mof (l : Launch) : z_V l 159 sp_mof := by
  refine z_V.ofP (by decide +kernel) ?_
  rintro as σ K Post ⟨now, was, kept, isk, ln, sp, ls, ld, tb, rd, und, gon, lef, ak, vn, dy, asd, lma, lim, rea, sts, apr, tz, spo, wro, num, nuA, stl, spe, wan, fou, M, rfl, hN, hO, r, c, rfl, hr, hc, hK⟩ hP1 hP0
  have hz := mi_lt hO (d := 5) (c := c) (by omega) hr (by rw [w_5]; omega)
  have ei : z_nn 377 0 + z_nn 7 0 * iI (r : Int) + iI (c : Int) = iI ((mi 5 r c : Nat) : Int) := by
    rw [zn_i, zn_i, iI_mul, iI_add, iI_add]; rfl
  refine AW.go (bs := b_Mod_of) [] 60 t_Mod_of ?_
  show _ ∧ _
  rw [ei]
  refine And.intro (zN_in hz (by omega)) ?_
  show Post _ _
  rw [zN_cl (by omega), hN.2.1 5 r c (by omega) hr (by rw [w_5]; omega), mVal, if_neg (by omega)]
  exact hP0 _ hK
def spT (F : Nat → Nat) : Sp := sp0 0 (fun as K => ∃ d : Nat, as = [.int (iI d)] ∧ d < 4 ∧ K (some (.int (iI (F d : Nat)))))
theorem d4 {d : Nat} (h : d < 4) : d = 0 ∨ d = 1 ∨ d = 2 ∨ d = 3 := by omega
set_option maxRecDepth 20000 in
theorem v_mlongOf (l : Launch) : z_V l 160 (spT oW) := by
  refine z_V.ofP (by decide +kernel) ?_
  rintro as σ K Post ⟨rfl, d, rfl, hd, hK⟩ hP1 hP0
  have ex : ∀ x : Int, 0 ≤ x → x ≤ 20 → iI (d : Int) = Int32.ofInt x → (d : Int) = x := fun x h0 h1 e => (iI_inj (by omega) (by omega) (by omega) (by omega)).mp e
  refine AW.go (bs := b_Mod_longOf) [] 60 t_Mod_longOf ?_
  refine And.intro (fun h => ?_) ⟨fun h => ?_, fun h => ?_, fun h => ?_, trivial⟩
  · rw [iI_toInt (by omega) (by omega)] at h
    have : d = 3 := by omega
    subst this
    exact hP0 _ hK
  · have h := ex 0 (by omega) (by omega) h
    have : d = 0 := by omega
    subst this
    exact hP0 _ hK
  · have h := ex 1 (by omega) (by omega) h
    have : d = 1 := by omega
    subst this
    exact hP0 _ hK
  · have h := ex 2 (by omega) (by omega) h
    have : d = 2 := by omega
    subst this
    exact hP0 _ hK
set_option maxRecDepth 20000 in
theorem v_mbeginOf (l : Launch) : z_V l 161 (spT mB) := by
  refine z_V.ofP (by decide +kernel) ?_
  rintro as σ K Post ⟨rfl, d, rfl, hd, hK⟩ hP1 hP0
  have ex : ∀ x : Int, 0 ≤ x → x ≤ 20 → iI (d : Int) = Int32.ofInt x → (d : Int) = x := fun x h0 h1 e => (iI_inj (by omega) (by omega) (by omega) (by omega)).mp e
  refine AW.go (bs := b_Mod_beginOf) [] 60 t_Mod_beginOf ?_
  refine And.intro (fun h => ?_) ⟨fun h => ?_, fun h => ?_, fun h => ?_, trivial⟩
  · rw [iI_toInt (by omega) (by omega)] at h
    have : d = 3 := by omega
    subst this
    exact hP0 _ hK
  · have h := ex 0 (by omega) (by omega) h
    have : d = 0 := by omega
    subst this
    exact hP0 _ hK
  · have h := ex 1 (by omega) (by omega) h
    have : d = 1 := by omega
    subst this
    exact hP0 _ hK
  · have h := ex 2 (by omega) (by omega) h
    have : d = 2 := by omega
    subst this
    exact hP0 _ hK
def sp_mmany : Sp := spN 0 (fun M _ _ _ _ _ as K => ∃ (d : Nat), as = [.ref 0, .int (iI d)] ∧ d < 4 ∧ K (some (.int (iI (M.1 d : Nat)))))
set_option maxRecDepth 20000 in
theorem v_mmany (l : Launch) : z_V l 162 sp_mmany := by
  refine z_V.ofP (by decide +kernel) ?_
  rintro as σ K Post ⟨now, was, kept, isk, ln, sp, ls, ld, tb, rd, und, gon, lef, ak, vn, dy, asd, lma, lim, rea, sts, apr, tz, spo, wro, num, nuA, stl, spe, wan, fou, M, rfl, hN, hO, d, rfl, hd, hK⟩ hP1 hP0
  have em : mS d = 1 + d := by rcases d4 hd with rfl | rfl | rfl | rfl <;> rfl
  refine AW.go (bs := b_Mod_many) [] 60 t_Mod_many ?_
  show _ ∧ _
  rw [zn_i 1, iI_add, show (((1 : Nat) : Int) + (d : Int)) = ((1 + d : Nat) : Int) by omega]
  refine And.intro (zN_in (by omega) (by omega)) ?_
  show Post _ _
  rw [zN_cl (by omega), ← em, hN.size d (by omega)]
  exact hP0 _ hK
def sp_mentryOf : Sp := spN 1 (fun M _ _ _ _ _ as K => ∃ (d k c : Nat), as = [.ref 0, .int (iI d), .int (iI k), .int (iI c)] ∧ d < 4 ∧ k < M.1 d ∧ c < oW d ∧ K (some (.int (iI (M.2.1 d k c)))))
set_option maxRecDepth 20000 in
theorem v_mentryOf (l : Launch) : z_V l 163 sp_mentryOf := by
  refine z_V.ofP (by decide +kernel) ?_
  rintro as σ K Post ⟨now, was, kept, isk, ln, sp, ls, ld, tb, rd, und, gon, lef, ak, vn, dy, asd, lma, lim, rea, sts, apr, tz, spo, wro, num, nuA, stl, spe, wan, fou, M, rfl, hN, hO, d, k, c, rfl, hd, hk, hc, hK⟩ hP1 hP0
  have hz := mi_lt hO (d := d) (by omega) hk hc
  have ei : iI ((mB d : Nat) : Int) + iI ((oW d : Nat) : Int) * iI (k : Int) + iI (c : Int) = iI ((mi d k c : Nat) : Int) := by
    rw [iI_mul, iI_add, iI_add]; rfl
  refine AW.go (bs := b_Mod_entryOf) [] 60 t_Mod_entryOf ?_
  refine ⟨_, v_mbeginOf l, by decide, rfl, d, rfl, hd, ?_⟩
  refine ⟨_, v_mlongOf l, by decide, rfl, d, rfl, hd, ?_⟩
  show _ ∧ _
  rw [ei]
  refine And.intro (zN_in hz (by omega)) ?_
  show Post _ _
  rw [zN_cl (by omega), hN.2.1 d k c (by omega) hk hc, mVal, if_neg (by omega)]
  exact hP0 _ hK
