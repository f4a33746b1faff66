def mtG (M : Od) (r : Nat) (g lo : Int) : Mt := (M.2.1 5 r 0, M.2.1 5 r 2, M.2.1 5 r 3, g, lo)
theorem mtG_ok {M : Od} (hO : OKM M) {r : Nat} (hr : r < M.1 5) {g lo : Int} (hg : ir g) (hl : ir lo) : mOK (mtG M r g lo) := by
  obtain ⟨m1, m2, m3, m4, m5, m6⟩ := mtR_ok hO hr
  exact ⟨m1, m2, m3, m4, hg, hl⟩
/-- with enough fuel it does not matter how much -/
theorem routeF_fuel {M : Od} (hO : OKM M) (m : Mt) (w : Int) : ∀ (n n' : Nat) (p d : Int), p < n → p < n' → routeF M m w n p d = routeF M m w n' p d
  | 0, 0, p, d, _, _ => rfl
  | 0, n' + 1, p, d, h, _ => by rw [routeF, routeF, if_neg (by omega)]
  | n + 1, 0, p, d, _, h => by rw [routeF, routeF, if_neg (by omega)]
  | n + 1, n' + 1, p, d, h, h' => by
    rw [routeF, routeF]
    split
    · next hc =>
      split
      · rfl
      · have h4 := (hO.2.2.2.2.1 p.toNat (by omega)).1
        rw [routeF_fuel hO m w n n' _ _ (by omega) (by omega)]
    · rfl
theorem routeF_ne {M : Od} {m : Mt} {w o y : Int} {n : Nat} (h0 : 0 ≤ o) (h1 : o < M.1 4) (hy : y ≤ 999) : routeF M m w (n + 1) o y ≠ [] := by
  rw [routeF, if_pos ⟨h0, h1, hy⟩]
  split <;> simp
def sp_masksFor : Sp := (0, 0, 0, pMd, fun as σ K => ∃ (now was kept isk ln sp ls ld tb rd : Nat → Int32) (und gon lef ak vn dy asd lma lim rea sts apr tz spo wro num nuA stl spe wan fou : Int32) (x y : Int32), as = [.ref 0, .int x, .int y] ∧ σ = (wMd now was kept isk ln sp ls ld tb rd und gon lef ak vn dy asd lma lim rea sts apr tz spo wro num nuA stl spe wan fou) ∧ K none (some (wMd now was kept isk ln sp ls ld tb rd und gon lef x y dy asd lma lim rea sts apr tz spo wro num nuA stl spe wan fou)))
set_option maxRecDepth 20000 in
theorem v_masksFor (l : Launch) : z_V l 169 sp_masksFor := by
  refine z_V.ofP (by decide +kernel) ?_
  rintro as σ K Post ⟨now, was, kept, isk, ln, sp, ls, ld, tb, rd, und, gon, lef, ak, vn, dy, asd, lma, lim, rea, sts, apr, tz, spo, wro, num, nuA, stl, spe, wan, fou, x, y, rfl, rfl, hK⟩ hP1 hP0
  refine AW.go (bs := b_Mod_asksFor) [] 60 t_Mod_asksFor ?_
  exact hP1 _ _ hK
/-- how a route lies in the model -/
def mRt (R : List SE) (w : Int) (sp ls : Nat → Int32) (sts apr : Int32) : Prop := RR sp ls w R ∧ sts = iI R.length ∧ apr = bI (decide (lC R w 4 = 0))
def sp_mroutesBy : Sp := (32, 0, 0, pMd, fun as σ K => ∃ (now was kept isk ln sp ls ld tb rd : Nat → Int32) (und gon lef ak vn dy asd lma lim rea sts apr tz spo wro num nuA stl spe wan fou : Int32) (M : Od) (r : Nat) (g lo w : Int), as = [.ref 0, .int (iI r), .int (iI w)] ∧ σ = (wMd now was kept isk ln sp ls ld tb rd und (iI g) (iI lo) ak vn dy asd lma lim rea sts apr tz spo wro num nuA stl spe wan fou) ∧ RM now M ∧ OKM M ∧ r < M.1 5 ∧ ir g ∧ ir lo ∧ ir w ∧
  ∀ sp' ls' ln' ak' vn' dy' asd' lma' lim' rea' sts' apr', mRt (routeF M (mtG M r g lo) w 12 (M.2.1 5 r 1) (M.2.1 5 r 5)) w sp' ls' sts' apr' → K none (some (wMd now was kept isk ln' sp' ls' ld tb rd und (iI g) (iI lo) ak' vn' dy' asd' lma' lim' rea' sts' apr' tz spo wro num nuA stl spe wan fou)))
set_option maxRecDepth 20000 in
theorem v_mroutesBy (l : Launch) : z_V l 177 sp_mroutesBy := by
  refine z_V.ofP (by decide +kernel) ?_
  rintro as σ K Post ⟨now, was, kept, isk, ln, sp, ls, ld, tb, rd, und, gon, lef, ak, vn, dy, asd, lma, lim, rea, sts, apr, tz, spo, wro, num, nuA, stl, spe, wan, fou, M, r, g, lo, w, rfl, rfl, hN, hO, hr, hg, hlo, hw, hK⟩ hP1 hP0
  have hc := hO.2.2.2.2.2.1 r hr
  have hx4 := hO.2.2.2.2.2.2.2.2.2 4 (by omega)
  rw [x_4] at hx4
  have hm := mtG_ok hO hr hg hlo
  have hpc := hO.2.2.2.2.2.2.2.1
  have ht : now 6 = iI (M.2.2 1 : Nat) := hN.2.2 1 (by omega)
  have loop : ∀ (n : Nat) (R : List SE) (p d : Int) (xa : Int32) (sp ls ln : Nat → Int32) (dy asd lma lim rea : Int32), R.length + n = 12 → -1 ≤ p → p < n → p < M.1 4 → 0 ≤ d → d ≤ 9999 → xa = bI (decide (lC R w 4 = 0)) → RR sp ls w R → (∀ e ∈ R, rOK e) → (lC R w 4 = 0 → R = routeF M (mtG M r g lo) w 12 (M.2.1 5 r 1) (M.2.1 5 r 5)) → (lC R w 4 ≠ 0 → R ++ routeF M (mtG M r g lo) w n p d = routeF M (mtG M r g lo) w 12 (M.2.1 5 r 1) (M.2.1 5 r 5)) →
      AW l 177 32 0 0 11 none Post 41 [some (.ref 0), some (.int (iI r)), some (.int (iI w)), some (.int (iI p)), some (.int (iI d))] [] (wMd now was kept isk ln sp ls ld tb rd und (iI g) (iI lo) (iI (M.2.1 5 r 0)) (iI (M.2.1 5 r 2)) dy asd lma lim rea (iI R.length) xa tz spo wro num nuA stl spe wan fou) 0 0 := by
    intro n
    induction n with
    | zero =>
      intro R p d xa sp ls ln dy asd lma lim rea hn p0 p1 p2 d0 d1 ea hRR hok h1 h2
      subst ea
      have hp : p = -1 := by omega
      refine AW.go (bs := b_Mod_routesBy) [41] 90 t_Mod_routesBy ?_
      refine And.intro (fun _ => ?_) (fun h => ?_)
      · refine hP1 _ _ (hK _ _ _ _ _ _ _ _ _ _ _ _ ?_)
        have : routeF M (mtG M r g lo) w 12 (M.2.1 5 r 1) (M.2.1 5 r 5) = R := by
          by_cases e : lC R w 4 = 0
          · exact (h1 e).symm
          · rw [← h2 e, routeF, List.append_nil]
        rw [this]
        exact ⟨hRR, rfl, rfl⟩
      · exact absurd ((zc_eq (b := -1) (by omega) (by omega) (by omega) (by omega)).mpr hp) h
    | succ n ih =>
      intro R p d xa sp ls ln dy asd lma lim rea hn p0 p1 p2 d0 d1 ea hRR hok h1 h2
      subst ea
      have stop : (lC R w 4 ≠ 0 → routeF M (mtG M r g lo) w (n + 1) p d = []) → Post none (wMd now was kept isk ln sp ls ld tb rd und (iI g) (iI lo) (iI (M.2.1 5 r 0)) (iI (M.2.1 5 r 2)) dy asd lma lim rea (iI R.length) (bI (decide (lC R w 4 = 0))) tz spo wro num nuA stl spe wan fou) := by
        intro e0
        refine hP1 _ _ (hK _ _ _ _ _ _ _ _ _ _ _ _ ?_)
        have : routeF M (mtG M r g lo) w 12 (M.2.1 5 r 1) (M.2.1 5 r 5) = R := by
          by_cases e : lC R w 4 = 0
          · exact (h1 e).symm
          · rw [← h2 e, e0 e, List.append_nil]
        rw [this]
        exact ⟨hRR, rfl, rfl⟩
      refine AW.go (bs := b_Mod_routesBy) [41] 90 t_Mod_routesBy ?_
      refine And.intro (fun h => ?_) (fun h => ?_)
      · have h := (zc_eq (b := -1) (by omega) (by omega) (by omega) (by omega)).mp h
        exact stop (fun _ => by rw [routeF, if_neg (by omega)])
      have h := mt (zc_eq (a := p) (b := -1) (by omega) (by omega) (by omega) (by omega)).mpr h
      refine And.intro (fun h3 => ?_) (fun h3 => ?_)
      · rw [zn_i, zc_gt (by omega) (by omega) (by omega) (by omega)] at h3
        exact stop (fun _ => by rw [routeF, if_neg (by omega)])
      rw [zn_i, zc_gt (by omega) (by omega) (by omega) (by omega)] at h3
      refine And.intro (fun h4 => ?_) (fun h4 => ?_)
      · rw [zc_bne, decide_eq_true_iff] at h4
        exact stop (fun e => absurd h4 e)
      rw [zc_bne, decide_eq_true_iff] at h4
      have h2' := h2 h4
      obtain ⟨q, rfl⟩ : ∃ q : Nat, p = (q : Int) := ⟨p.toNat, by omega⟩
      have hq : q < M.1 4 := by omega
      have hst := stepF_ok hO hm hq d0 (by omega)
      rw [routeF, if_pos ⟨by omega, by omega, by omega⟩, Int.toNat_natCast] at h2'
      have ea : bI (decide (lC R w 4 = 0)) = iI 0 := by rw [decide_eq_false h4]; rfl
      refine ⟨_, v_mof l, by decide, _, _, _, _, _, _, _, _, _, _, _, _, _, _, _, _, _, _, _, _, _, _, _, _, _, _, _, _, _, _, _, M, rfl, hN, hO, r, 3, rfl, hr, by omega, ?_⟩
      show ∃ sp : Sp, _
      rw [ea]
      refine ⟨_, v_mclimbs l, by decide, _, _, _, _, _, _, _, _, _, _, _, 0, 0, 0, 0, _, _, _, _, _, 0, 0, _, _, _, _, _, _, _, _, _, M, mtG M r g lo, R, q, d, w, _, rfl, rfl, rfl, hN, hO, hm, hq, d0, by omega, hw, by omega, hRR, fun e he => (hok e he).2.2.2.1, fun sp' ls' ln' dy' asd' lma' lim' rea' hRR' => ?_⟩
      have h4' := (hO.2.2.2.2.1 q hq).1
      have hok' : ∀ e ∈ R ++ [stepF M (mtG M r g lo) q d], rOK e := by
        intro e he
        rw [List.mem_append, List.mem_singleton] at he
        rcases he with he | rfl
        · exact hok e he
        · exact hst
      refine And.intro (zn_in (by omega) (by omega)) ?_
      show ∃ sp : Sp, _
      rw [zn_cl (by omega), ht, iI_add]
      refine ⟨_, v_mupper l, by decide, _, _, _, _, _, _, _, _, _, _, _, _, _, _, _, _, _, _, _, _, _, _, _, _, _, _, _, _, _, _, _, M, rfl, hN, hO, q, rfl, hq, ?_⟩
      have hup : -1 ≤ upM M q ∧ upM M q < q := by unfold upM mVal; split <;> omega
      have h5 := hst.2.1
      have h6 := hst.2.2.1
      have hlen : (R ++ [stepF M (mtG M r g lo) q d]).length = R.length + 1 := by simp
      have := ih (R ++ [stepF M (mtG M r g lo) q d]) (upM M q) ((stepF M (mtG M r g lo) q d).2.1 + (M.2.2 1 : Nat)) (bI (decide (sC (stepF M (mtG M r g lo) q d) w 4 = 0))) sp' ls' ln' dy' asd' lma' lim' rea' (by omega) hup.1 (by omega) (by omega) (by omega) (by omega) (by rw [lC_snoc]) hRR' hok' (fun e => ?_) (fun e => ?_)
      · rw [hlen] at this
        exact this
      · rw [lC_snoc] at e
        rw [if_pos e] at h2'
        exact h2'
      · rw [lC_snoc] at e
        rw [if_neg e, List.append_cons] at h2'
        rw [← h2']
        congr 1
        unfold upM mVal
        by_cases e2 : M.2.1 4 q 0 = -2
        · rw [if_pos ⟨rfl, rfl, e2⟩, e2]
          cases n with
          | zero => rfl
          | succ n => rw [routeF, routeF, if_neg (by omega), if_neg (by omega)]
        · rw [if_neg (fun z => e2 z.2.2)]
  refine AW.go (bs := b_Mod_routesBy) [41] 90 t_Mod_routesBy ?_
  refine ⟨_, v_mof l, by decide, _, _, _, _, _, _, _, _, _, _, _, _, _, _, _, _, _, _, _, _, _, _, _, _, _, _, _, _, _, _, _, M, rfl, hN, hO, r, 0, rfl, hr, by omega, ?_⟩
  refine ⟨_, v_mof l, by decide, _, _, _, _, _, _, _, _, _, _, _, _, _, _, _, _, _, _, _, _, _, _, _, _, _, _, _, _, _, _, _, M, rfl, hN, hO, r, 2, rfl, hr, by omega, ?_⟩
  refine ⟨_, v_masksFor l, by decide, _, _, _, _, _, _, _, _, _, _, _, _, _, _, _, _, _, _, _, _, _, _, _, _, _, _, _, _, _, _, _, _, _, rfl, rfl, ?_⟩
  refine And.intro (Or.inl rfl) ?_
  refine ⟨_, v_mof l, by decide, _, _, _, _, _, _, _, _, _, _, _, _, _, _, _, _, _, _, _, _, _, _, _, _, _, _, _, _, _, _, _, M, rfl, hN, hO, r, 1, rfl, hr, by omega, ?_⟩
  refine ⟨_, v_mof l, by decide, _, _, _, _, _, _, _, _, _, _, _, _, _, _, _, _, _, _, _, _, _, _, _, _, _, _, _, _, _, _, _, M, rfl, hN, hO, r, 5, rfl, hr, by omega, ?_⟩
  exact loop 12 [] _ _ _ _ _ _ _ _ _ _ _ rfl (by omega) (by omega) (by omega) (by omega) (by omega) rfl (fun i e h => by simp at h) (fun e h => by simp at h) (fun e => by simp [lC] at e) (fun _ => rfl)
def sp_mroutes : Sp := (33, 0, 0, pMd, fun as σ K => ∃ (now was kept isk ln sp ls ld tb rd : Nat → Int32) (und gon lef ak vn dy asd lma lim rea sts apr tz spo wro num nuA stl spe wan fou : Int32) (M : Od) (r : Nat) (g lo : Int), as = [.ref 0, .int (iI r)] ∧ σ = (wMd now was kept isk ln sp ls ld tb rd und (iI g) (iI lo) ak vn dy asd lma lim rea sts apr tz spo wro num nuA stl spe wan fou) ∧ RM now M ∧ OKM M ∧ r < M.1 5 ∧ ir g ∧ ir lo ∧
  ∀ sp' ls' ln' ak' vn' dy' asd' lma' lim' rea' sts' apr', mRt (routeF M (mtG M r g lo) (wq M r) 12 (M.2.1 5 r 1) (M.2.1 5 r 5)) (wq M r) sp' ls' sts' apr' → K none (some (wMd now was kept isk ln' sp' ls' ld tb rd und (iI g) (iI lo) ak' vn' dy' asd' lma' lim' rea' sts' apr' tz spo wro num nuA stl spe wan fou)))
set_option maxRecDepth 20000 in
theorem v_mroutes (l : Launch) : z_V l 178 sp_mroutes := by
  refine z_V.ofP (by decide +kernel) ?_
  rintro as σ K Post ⟨now, was, kept, isk, ln, sp, ls, ld, tb, rd, und, gon, lef, ak, vn, dy, asd, lma, lim, rea, sts, apr, tz, spo, wro, num, nuA, stl, spe, wan, fou, M, r, g, lo, rfl, rfl, hN, hO, hr, hg, hlo, hK⟩ hP1 hP0
  have hw := whF_rng hO hr (M.2.1 5 r 5)
  have hwq : 1 ≤ wq M r ∧ wq M r ≤ 500000 := hw
  refine AW.go (bs := b_Mod_routes) [] 60 t_Mod_routes ?_
  refine ⟨_, v_mwholeOf l, by decide, _, _, _, _, _, _, _, _, _, _, _, _, _, _, _, _, _, _, _, _, _, _, _, _, _, _, _, _, _, _, _, M, rfl, hN, hO, r, rfl, hr, ?_⟩
  refine ⟨_, v_mroutesBy l, by decide, _, _, _, _, _, _, _, _, _, _, _, 0, 0, _, _, _, _, _, _, _, _, _, _, _, _, _, _, _, _, _, _, M, r, g, lo, wq M r, rfl, rfl, hN, hO, hr, hg, hlo, ⟨by omega, by omega⟩, fun sp' ls' ln' ak' vn' dy' asd' lma' lim' rea' sts' apr' h => ?_⟩
  exact hP1 _ _ (hK _ _ _ _ _ _ _ _ _ _ _ _ h)
/-- reading a route in the model -/
def spMQ (rk : Nat) (P : Int → List SE → List Value → (Option Value → Prop) → Prop) : Sp := (rk, 0, 0, pMd, fun as σ K => ∃ (now was kept isk ln sp ls ld tb rd : Nat → Int32) (und gon lef ak vn dy asd lma lim rea sts apr tz spo wro num nuA stl spe wan fou : Int32) (w : Int) (R : List SE), σ = (wMd now was kept isk ln sp ls ld tb rd und gon lef ak vn dy asd lma lim rea sts apr tz spo wro num nuA stl spe wan fou) ∧ mRt R w sp ls sts apr ∧ R.length ≤ 12 ∧ R ≠ [] ∧ P w R as (fun r => K r none))
def sp_mlast : Sp := spMQ 0 (fun w R as K => ∃ c : Nat, as = [.ref 0, .int (iI c)] ∧ c < 6 ∧ K (some (.int (iI (lC R w c)))))
set_option maxRecDepth 20000 in
theorem v_mlast (l : Launch) : z_V l 179 sp_mlast := by
  refine z_V.ofP (by decide +kernel) ?_
  rintro as σ K Post ⟨now, was, kept, isk, ln, sp, ls, ld, tb, rd, und, gon, lef, ak, vn, dy, asd, lma, lim, rea, sts, apr, tz, spo, wro, num, nuA, stl, spe, wan, fou, w, R, rfl, ⟨hRR, rfl, rfl⟩, hl, hne, c, rfl, hc, hK⟩ hP1 hP0
  have hpos : 1 ≤ R.length := by
    cases R with
    | nil => exact absurd rfl hne
    | cons => simp
  obtain ⟨e, he⟩ : ∃ e, R[R.length - 1]? = some e := ⟨_, List.getElem?_eq_getElem (by omega)⟩
  have ei : z_nn 6 0 * (iI (R.length : Int) - z_nn 1 0) + iI (c : Int) = iI ((6 * (R.length - 1) + c : Nat) : Int) := by
    rw [zn_i, zn_i, iI_sub, iI_mul, iI_add]; congr 1; omega
  refine AW.go (bs := b_Mod_last) [] 60 t_Mod_last ?_
  show _ ∧ _
  rw [ei]
  refine And.intro (zN_in (by omega) (by omega)) ?_
  show Post _ _
  rw [zN_cl (by omega), (hRR _ e he).1 c hc]
  rw [lC, List.getLast?_eq_getElem?, he] at hK
  exact hP0 _ hK
def sp_mendBy : Sp := spMQ 1 (fun w R as K => ∃ c : Int, as = [.ref 0, .int (iI c)] ∧ ir c ∧ 0 ≤ c ∧ K (some (.int (iI (outF R w c)))))
set_option maxRecDepth 20000 in
theorem v_mendBy (l : Launch) : z_V l 191 sp_mendBy := by
  refine z_V.ofP (by decide +kernel) ?_
  rintro as σ K Post ⟨now, was, kept, isk, ln, sp, ls, ld, tb, rd, und, gon, lef, ak, vn, dy, asd, lma, lim, rea, sts, apr, tz, spo, wro, num, nuA, stl, spe, wan, fou, w, R, rfl, hrt, hl, hne, c, rfl, ⟨c1, c2⟩, c0, hK⟩ hP1 hP0
  have hrt0 := hrt
  obtain ⟨hRR, rfl, rfl⟩ := hrt
  unfold outF at hK
  refine AW.go (bs := b_Mod_endBy) [] 60 t_Mod_endBy ?_
  have ex : ∀ x : Int, 0 ≤ x → x ≤ 20 → iI c = Int32.ofInt x → c = x := fun x h0 h1 e => (iI_inj c1 c2 (by omega) (by omega)).mp e
  refine And.intro (fun h => ?_) (fun h => And.intro (fun h2 => ?_) (fun h2 => ?_))
  · have h := ex 0 (by omega) (by omega) h
    rw [if_pos h] at hK
    refine And.intro (fun h2 => ?_) (fun h2 => ?_)
    · rw [zc_beq, decide_eq_false_iff_not] at h2
      rw [if_neg h2] at hK
      exact hP0 _ hK
    · rw [zc_beq, decide_eq_false_iff_not, Classical.not_not] at h2
      rw [if_pos h2] at hK
      exact hP0 _ hK
  · have h2 := ex 1 (by omega) (by omega) h2
    rw [if_neg (by omega), if_pos h2] at hK
    refine ⟨_, v_mlast l, by decide, _, _, _, _, _, _, _, _, _, _, _, _, _, _, _, _, _, _, _, _, _, _, _, _, _, _, _, _, _, _, _, w, R, rfl, hrt0, hl, hne, 1, rfl, by omega, ?_⟩
    exact hP0 _ hK
  · have n0 : c ≠ 0 := fun e => h (by rw [e]; rfl)
    have n1 : c ≠ 1 := fun e => h2 (by rw [e]; rfl)
    rw [if_neg n0, if_neg n1] at hK
    refine And.intro (fun h3 => ?_) (fun h3 => ?_)
    · rw [zc_beq, decide_eq_false_iff_not] at h3
      rw [if_neg h3] at hK
      exact hP0 _ hK
    · rw [zc_beq, decide_eq_false_iff_not, Classical.not_not] at h3
      rw [if_pos h3] at hK
      refine ⟨_, v_mlast l, by decide, _, _, _, _, _, _, _, _, _, _, _, _, _, _, _, _, _, _, _, _, _, _, _, _, _, _, _, _, _, _, _, w, R, rfl, hrt0, hl, hne, 2, rfl, by omega, ?_⟩
      exact hP0 _ hK
def sp_misRecalled : Sp := spN 1 (fun M _ _ _ _ _ as K => ∃ (r : Nat), as = [.ref 0, .int (iI r)] ∧ r < M.1 5 ∧ K (some (.int (bI (recd M r)))))
set_option maxRecDepth 20000 in
theorem v_misRecalled (l : Launch) : z_V l 180 sp_misRecalled := by
  refine z_V.ofP (by decide +kernel) ?_
  rintro as σ K Post ⟨now, was, kept, isk, ln, sp, ls, ld, tb, rd, und, gon, lef, ak, vn, dy, asd, lma, lim, rea, sts, apr, tz, spo, wro, num, nuA, stl, spe, wan, fou, M, rfl, hN, hO, r, rfl, hr, hK⟩ hP1 hP0
  have c := hO.2.2.2.2.2.1 r hr
  unfold recd at hK
  refine AW.go (bs := b_Mod_isRecalled) [] 60 t_Mod_isRecalled ?_
  refine ⟨_, v_mof l, by decide, _, _, _, _, _, _, _, _, _, _, _, _, _, _, _, _, _, _, _, _, _, _, _, _, _, _, _, _, _, _, _, M, rfl, hN, hO, r, 6, rfl, hr, by omega, ?_⟩
  refine And.intro (fun h => ?_) (fun h => ?_)
  · have h := (zc_eq (b := -2) (by omega) (by omega) (by omega) (by omega)).mp h
    rw [decide_eq_false (fun q => q h)] at hK
    exact And.intro (Or.inl rfl) (hP0 _ hK)
  · have h := mt (zc_eq (a := M.2.1 5 r 6) (b := -2) (by omega) (by omega) (by omega) (by omega)).mpr h
    rw [decide_eq_true h] at hK
    exact And.intro (Or.inr rfl) (hP0 _ hK)
theorem upN_fuel {M : Od} (hO : OKM M) : ∀ (n n' : Nat) (p : Int), p < n → p < n' → upN M n p = upN M n' p
  | 0, 0, p, _, _ => rfl
  | 0, n' + 1, p, h, _ => by rw [upN, upN, if_neg (by omega)]
  | n + 1, 0, p, _, h => by rw [upN, upN, if_neg (by omega)]
  | n + 1, n' + 1, p, h, h' => by
    rw [upN, upN]
    split
    · next hc =>
      have h4 := (hO.2.2.2.2.1 p.toNat (by omega)).1
      rw [upN_fuel hO n n' _ (by omega) (by omega)]
    · rfl
def sp_maboveOf : Sp := spN 1 (fun M _ _ _ _ _ as K => ∃ p : Nat, as = [.ref 0, .int (iI p)] ∧ p < M.1 4 ∧ K (some (.int (iI (upN M 12 (M.2.1 4 p 0) : Nat)))))
set_option maxRecDepth 20000 in
theorem v_maboveOf (l : Launch) : z_V l 181 sp_maboveOf := by
  refine z_V.ofP (by decide +kernel) ?_
  rintro as σ K Post ⟨now, was, kept, isk, ln, sp, ls, ld, tb, rd, und, gon, lef, ak, vn, dy, asd, lma, lim, rea, sts, apr, tz, spo, wro, num, nuA, stl, spe, wan, fou, M, rfl, hN, hO, p, rfl, hp, hK⟩ hP1 hP0
  have hx4 := hO.2.2.2.2.2.2.2.2.2 4 (by omega)
  rw [x_4] at hx4
  have hu : ∀ q : Nat, q < M.1 4 → -1 ≤ upM M q ∧ upM M q < q ∧ ∀ n, upN M n (upM M q) = upN M n (M.2.1 4 q 0) := by
    intro q hq
    have h4 := (hO.2.2.2.2.1 q hq).1
    unfold upM mVal
    split
    · next e =>
      refine ⟨by omega, by omega, fun n => ?_⟩
      rw [e.2.2]
      cases n with
      | zero => rfl
      | succ n => rw [upN, upN, if_neg (by omega), if_neg (by omega)]
    · exact ⟨by omega, by omega, fun _ => rfl⟩
  have loop : ∀ (n a : Nat) (u : Int) (x2 x3 : Int32), u < n → -1 ≤ u → u < M.1 4 → x3 = iI u → x2 = iI (a : Int) → a + n ≤ 100 → a + upN M n u = upN M 12 (M.2.1 4 p 0) →
      AW l 181 1 0 0 11 none Post 8 [some (.ref 0), some (.int (iI p)), some (.int x2), some (.int x3)] [] (wMd now was kept isk ln sp ls ld tb rd und gon lef ak vn dy asd lma lim rea sts apr tz spo wro num nuA stl spe wan fou) 0 0 := by
    intro n
    induction n with
    | zero =>
      intro a u x2 x3 h1 h2 h3 e3 e2 hb hv
      subst e2; subst e3
      have hu1 : u = -1 := by omega
      refine AW.go (bs := b_Mod_aboveOf) [8] 60 t_Mod_aboveOf ?_
      refine And.intro (fun h => ?_) (fun h => absurd ((zc_eq (b := -1) (by omega) (by omega) (by omega) (by omega)).mpr hu1) h)
      rw [upN, Nat.add_zero] at hv
      rw [← hv] at hK
      exact hP0 _ hK
    | succ n ih =>
      intro a u x2 x3 h1 h2 h3 e3 e2 hb hv
      subst e2; subst e3
      refine AW.go (bs := b_Mod_aboveOf) [8] 60 t_Mod_aboveOf ?_
      refine And.intro (fun h => ?_) (fun h => ?_)
      · have h := (zc_eq (b := -1) (by omega) (by omega) (by omega) (by omega)).mp h
        rw [upN, if_neg (by omega), Nat.add_zero] at hv
        rw [← hv] at hK
        exact hP0 _ hK
      have h := mt (zc_eq (a := u) (b := -1) (by omega) (by omega) (by omega) (by omega)).mpr h
      obtain ⟨q, rfl⟩ : ∃ q : Nat, u = (q : Int) := ⟨u.toNat, by omega⟩
      have hq := hu q (by omega)
      refine ⟨_, v_mupper l, by decide, _, _, _, _, _, _, _, _, _, _, _, _, _, _, _, _, _, _, _, _, _, _, _, _, _, _, _, _, _, _, _, M, rfl, hN, hO, q, rfl, by omega, ?_⟩
      refine ih (a + 1) (upM M q) _ _ (by omega) (by omega) (by omega) rfl (zn_inc a) (by omega) ?_
      rw [upN, if_pos (by omega), Int.toNat_natCast] at hv
      rw [hq.2.2]
      omega
  have hq := hu p hp
  refine AW.go (bs := b_Mod_aboveOf) [8] 60 t_Mod_aboveOf ?_
  refine ⟨_, v_mupper l, by decide, _, _, _, _, _, _, _, _, _, _, _, _, _, _, _, _, _, _, _, _, _, _, _, _, _, _, _, _, _, _, _, M, rfl, hN, hO, p, rfl, hp, ?_⟩
  exact loop 12 0 _ _ _ (by omega) hq.1 (by omega) rfl rfl (by omega) (by rw [hq.2.2, Nat.zero_add])
def sp_mbelowOf : Sp := spN 1 (fun M _ _ _ _ _ as K => ∃ p : Nat, as = [.ref 0, .int (iI p)] ∧ p < M.1 4 ∧ K (some (.int (iI (cntF (fun k => decide (M.2.1 4 k 0 = (p : Int))) (M.1 4) : Nat)))))
set_option maxRecDepth 20000 in
theorem v_mbelowOf (l : Launch) : z_V l 182 sp_mbelowOf := by
  refine z_V.ofP (by decide +kernel) ?_
  rintro as σ K Post ⟨now, was, kept, isk, ln, sp, ls, ld, tb, rd, und, gon, lef, ak, vn, dy, asd, lma, lim, rea, sts, apr, tz, spo, wro, num, nuA, stl, spe, wan, fou, M, rfl, hN, hO, p, rfl, hp, hK⟩ hP1 hP0
  have hx4 := hO.mx 4 (by omega)
  have loop : ∀ (n k : Nat) (x2 x3 : Int32), n = M.1 4 - k → k ≤ M.1 4 → x3 = iI (k : Int) → x2 = iI (cntF (fun k => decide (M.2.1 4 k 0 = (p : Int))) k : Nat) →
      AW l 182 1 0 0 11 none Post 4 [some (.ref 0), some (.int (iI p)), some (.int x2), some (.int x3)] [] (wMd now was kept isk ln sp ls ld tb rd und gon lef ak vn dy asd lma lim rea sts apr tz spo wro num nuA stl spe wan fou) 0 0 := by
    intro n
    induction n using Nat.strongRecOn with
    | ind n ih =>
      intro k x2 x3 hn hk e3 e2
      subst e2; subst e3
      refine AW.go (bs := b_Mod_belowOf) [4] 60 t_Mod_belowOf ?_
      refine ⟨_, v_mposts l, by decide, _, _, _, _, _, _, _, _, _, _, _, _, _, _, _, _, _, _, _, _, _, _, _, _, _, _, _, _, _, _, _, M, rfl, hN, hO, rfl, ?_⟩
      refine And.intro (fun h => ?_) (fun h => ?_)
      · rw [zc_ge (by omega) (by omega) (by omega) (by omega)] at h
        have : k = M.1 4 := by omega
        subst this
        exact hP0 _ hK
      rw [zc_ge (by omega) (by omega) (by omega) (by omega)] at h
      have hk4 : k < M.1 4 := by omega
      have h4 := (hO.2.2.2.2.1 k hk4).1
      have hup : -1 ≤ upM M k ∧ upM M k < k ∧ (upM M k = (p : Int) ↔ M.2.1 4 k 0 = (p : Int)) := by unfold upM mVal; split <;> omega
      refine ⟨_, v_mupper l, by decide, _, _, _, _, _, _, _, _, _, _, _, _, _, _, _, _, _, _, _, _, _, _, _, _, _, _, _, _, _, _, _, M, rfl, hN, hO, k, rfl, hk4, ?_⟩
      refine And.intro (fun h2 => ?_) (fun h2 => ?_)
      · rw [zc_ne (by omega) (by omega) (by omega) (by omega)] at h2
        exact ih _ (by omega) (k + 1) _ _ rfl (by omega) (zn_inc k) (by rw [cntF, if_neg (by rw [decide_eq_true_iff]; omega), zn_i, iI_add]; first | rfl | (congr 1; done) | (congr 1; simp; done) | (congr 1; omega))
      · rw [zc_ne (by omega) (by omega) (by omega) (by omega), Classical.not_not] at h2
        exact ih _ (by omega) (k + 1) _ _ rfl (by omega) (zn_inc k) (by rw [cntF, if_pos (by rw [decide_eq_true_iff]; omega)]; exact zn_inc _)
  refine AW.go (bs := b_Mod_belowOf) [4] 60 t_Mod_belowOf ?_
  exact loop _ 0 _ _ rfl (by omega) rfl rfl
