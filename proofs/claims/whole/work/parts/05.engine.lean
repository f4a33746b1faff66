/-! THE ENGINE: an abstract machine over worlds with places in place of addresses; 'z_step' is the weakest precondition of one instruction. -/
abbrev AE : Type := (Nat × Nat × (Nat → Int32)) ⊕ (List (Option Nat) ⊕ (Nat × List Value))
abbrev CI : Type := Nat × Instr × Nat × Nat
abbrev BK : Type := Nat × List CI × Nat
abbrev LC : Type := List (Option Value)
def z_nth {α : Type} : List α → Nat → Option α
  | [], _ => none
  | a :: _, 0 => some a
  | _ :: l, n + 1 => z_nth l n
def z_set {α : Type} : List α → Nat → α → List α
  | [], _, _ => []
  | _ :: l, 0, x => x :: l
  | a :: l, n + 1, x => a :: z_set l n x
theorem z_nth_eq {α : Type} (l : List α) (n : Nat) : z_nth l n = l[n]? := by
  induction l generalizing n with
  | nil => rfl
  | cons a l ih => cases n with
    | zero => rfl
    | succ n => simpa [z_nth] using ih n
theorem z_set_eq {α : Type} (l : List α) (n : Nat) (x : α) : z_set l n x = l.set n x := by
  induction l generalizing n with
  | nil => rfl
  | cons a l ih => cases n with
    | zero => rfl
    | succ n => simpa [z_set] using ih n
/-- a value under another numbering of places -/
def z_cv (ad : Nat → Nat) (v : Value) : Value := match v with
  | .ref k => .ref (ad k)
  | .int x => .int x
  | .long x => .long x
  | .float x => .float x
  | .double x => .double x
  | .null => .null
  | .retAddr x => .retAddr x
def z_ce (g : Nat → Nat) (c : AE) : AE := match c with
  | .inl a => .inl a
  | .inr (.inl rs) => .inr (.inl (rs.map (Option.map g)))
  | .inr (.inr (ci, fs)) => .inr (.inr (ci, fs.map (z_cv g)))
def z_con (cy : Nat → ClassId) (ad : Nat → Nat) (c : AE) : va_E := match c with
  | .inl (k, n, f) => .inl (cy k, n, .inl f)
  | .inr (.inl rs) => .inl (cy 3, rs.length, .inr (.inr (.inr (.inr (fun i => (rs.getD i none).map ad)))))
  | .inr (.inr (ci, fs)) => .inr (ci, fs.map (z_cv ad))
def z_wc (cy : Nat → ClassId) (ad : Nat → Nat) : Nat → List AE → va_W
  | _, [] => []
  | k, c :: σ => (ad k, z_con cy ad c) :: z_wc cy ad (k + 1) σ
/-- locals: what is known of them -/
def z_kn (ad : Nat → Nat) : Nat → LC → List (Nat × Value)
  | _, [] => []
  | k, some v :: L => (k, z_cv ad v) :: z_kn ad (k + 1) L
  | k, none :: L => z_kn ad (k + 1) L
def z_lay : List Value → LC
  | [] => []
  | .long x :: vs => some (.long x) :: none :: z_lay vs
  | .double x :: vs => some (.double x) :: none :: z_lay vs
  | v :: vs => some v :: z_lay vs
/-- forcing forms: they build written-out lists -/
def z_ent : List Value → Nat → (LC → Prop) → Prop
  | [], 0, k => k []
  | [], n + 1, k => z_ent [] n (fun L => k (none :: L))
  | .int x :: vs, n + 1, k => z_ent vs n (fun L => k (some (.int x) :: L))
  | .ref x :: vs, n + 1, k => z_ent vs n (fun L => k (some (.ref x) :: L))
  | .null :: vs, n + 1, k => z_ent vs n (fun L => k (some .null :: L))
  | .long x :: vs, n + 2, k => z_ent vs n (fun L => k (some (.long x) :: none :: L))
  | _, _, _ => False
def z_setK {α : Type} : List α → Nat → α → (List α → Prop) → Prop
  | [], _, _, k => k []
  | _ :: l, 0, x, k => k (x :: l)
  | a :: l, n + 1, x, k => z_setK l n x (fun l' => k (a :: l'))
def z_snocK {α : Type} : List α → α → (List α → Prop) → Prop
  | [], x, k => k [x]
  | a :: l, x, k => z_snocK l x (fun l' => k (a :: l'))
def z_nums : List Nat := [0, 1, 2, 3, 4, 5, 6, 7, 8, 9, 10, 11, 12, 13, 14, 15, 16, 17, 18, 19, 20, 21, 22, 23, 24, 25, 26, 27, 28, 29, 30, 31, 32, 33, 34, 35, 36, 37, 38, 39, 40, 41, 42, 43, 44, 45, 46, 47, 48, 49, 50, 51, 52, 53, 54, 55, 56, 57, 58, 59, 60, 61, 62, 63, 64, 65, 66, 67, 68, 69, 70, 71, 72, 73, 74, 75, 76, 77, 78, 79, 80, 81, 82, 83, 84, 85, 86, 87, 88, 89, 90, 91, 92, 93, 94, 95, 96, 97, 98, 99, 100, 101, 102, 103, 104, 105, 106, 107, 108, 109, 110, 111, 112, 113, 114, 115, 116, 117, 118, 119, 120, 121, 122, 123, 124, 125, 126, 127, 128, 129, 130, 131, 132, 133, 134, 135, 136, 137, 138, 139, 140, 141, 142, 143, 144, 145, 146, 147, 148, 149, 150, 151, 152, 153, 154, 155, 156, 157, 158, 159, 160, 161, 162, 163, 164, 165, 166, 167, 168, 169, 170, 171, 172, 173, 174, 175, 176, 177, 178, 179, 180, 181, 182, 183, 184, 185, 186, 187, 188, 189, 190, 191, 192, 193, 194, 195, 196, 197, 198, 199]
def z_lenO {α : Type} : List α → List Nat → Option Nat
  | [], i :: _ => some i
  | _ :: l, _ :: is => z_lenO l is
  | _, [] => none
def z_cvK (gK : Nat → (Nat → Prop) → Prop) (v : Value) (k : Value → Prop) : Prop := match v with
  | .ref i => gK i (fun i => k (.ref i))
  | .int x => k (.int x)
  | .long x => k (.long x)
  | .float x => k (.float x)
  | .double x => k (.double x)
  | .null => k .null
  | .retAddr x => k (.retAddr x)
def z_vsK (gK : Nat → (Nat → Prop) → Prop) : List Value → (List Value → Prop) → Prop
  | [], k => k []
  | v :: vs, k => z_cvK gK v (fun v => z_vsK gK vs (fun vs => k (v :: vs)))
def z_rsK (gK : Nat → (Nat → Prop) → Prop) : List (Option Nat) → (List (Option Nat) → Prop) → Prop
  | [], k => k []
  | some g :: rs, k => gK g (fun g => z_rsK gK rs (fun rs => k (some g :: rs)))
  | none :: rs, k => z_rsK gK rs (fun rs => k (none :: rs))
def z_ceK (gK : Nat → (Nat → Prop) → Prop) (c : AE) (k : AE → Prop) : Prop := match c with
  | .inl a => k (.inl a)
  | .inr (.inl rs) => z_rsK gK rs (fun rs => k (.inr (.inl rs)))
  | .inr (.inr (ci, fs)) => z_vsK gK fs (fun fs => k (.inr (.inr (ci, fs))))
/-- renaming between a caller's world and a callee's: rho lists the caller's places -/
def z_ix : List Nat → List Nat → Nat → Option Nat
  | r :: ρ, i :: is, g => (match Nat.beq r g with
    | true => some i
    | false => z_ix ρ is g)
  | _, _, _ => none
def z_iv (ρ : List Nat) (g : Nat) : Nat := match Nat.ble 1000 g with
  | false => (match z_ix ρ z_nums g with
    | some i => i
    | none => 10000 + g)
  | true => (match Nat.ble 10000 g with
    | false => g
    | true => 10000 + g)
def z_ivK (ρ : List Nat) (g : Nat) (k : Nat → Prop) : Prop := match Nat.ble 1000 g with
  | false => (match z_ix ρ z_nums g with
    | some i => k i
    | none => k (10000 + g))
  | true => (match Nat.ble 10000 g with
    | false => k g
    | true => k (10000 + g))
def z_fw (ρ : List Nat) (N : Nat) (i : Nat) : Nat := match Nat.ble 1000 i with
  | false => (match z_nth ρ i with
    | some r => r
    | none => 999999)
  | true => (match Nat.ble 10000 i with
    | false => i
    | true => (match Nat.ble N (i - 10000) && Nat.blt (i - 10000) 1000 with
      | true => 999999
      | false => i - 10000))
def z_fwK (ρ : List Nat) (N : Nat) (i : Nat) (k : Nat → Prop) : Prop := match Nat.ble 1000 i with
  | false => (match z_nth ρ i with
    | some r => k r
    | none => k 999999)
  | true => (match Nat.ble 10000 i with
    | false => k i
    | true => (match Nat.ble N (i - 10000) && Nat.blt (i - 10000) 1000 with
      | true => k 999999
      | false => k (i - 10000)))
def z_ok1 (N : Nat) (g : Nat) : Bool := Nat.blt g N || Nat.ble 1000 g
def z_okV (N : Nat) (v : Value) : Bool := match v with
  | .ref g => z_ok1 N g
  | _ => true
def z_okC (N : Nat) (c : AE) : Bool := match c with
  | .inl _ => true
  | .inr (.inl rs) => rs.all (fun r => match r with | some g => z_ok1 N g | none => true)
  | .inr (.inr (_, fs)) => fs.all (z_okV N)
def z_okO (N : Nat) (o : Option Value) : Bool := match o with
  | some v => z_okV N v
  | none => true
def z_okR (r : Option Value) (σ : List AE) : Bool := z_okO σ.length r && σ.all (z_okC σ.length)
def z_okr : List Nat → Nat → Bool
  | [], _ => true
  | r :: ρ, N => Nat.blt r N && (!(ρ.elem r) && z_okr ρ N)
def z_path (σ : List AE) : Value → List Nat → Option Nat
  | .ref k, [] => some k
  | .ref k, f :: fs => (match z_nth σ k with
    | some (.inr (.inr (_, vs))) => (match z_nth vs f with
      | some v => z_path σ v fs
      | none => none)
    | some (.inr (.inl rs)) => (match z_nth rs f with
      | some (some g) => z_path σ (.ref g) fs
      | _ => none)
    | _ => none)
  | _, _ => none
/-- the places of the callee's world, one by one -/
def z_rho (σ : List AE) (args : List Value) : List (Nat × List Nat) → (List Nat → Prop) → Prop
  | [], k => k []
  | q :: ps, k => (match z_nth args q.1 with
    | some v => (match z_path σ v q.2 with
      | some r => z_rho σ args ps (fun ρ => k (r :: ρ))
      | none => False)
    | none => False)
/-- the callee's world -/
def z_lw (σ : List AE) (ρ0 : List Nat) : List Nat → (List AE → Prop) → Prop
  | [], k => k []
  | r :: ρ, k => (match z_nth σ r with
    | some c => z_ceK (z_ivK ρ0) c (fun c => z_lw σ ρ0 ρ (fun σl => k (c :: σl)))
    | none => False)
def z_args : Nat → List Value → List Value → Option (List Value × List Value)
  | 0, acc, st => some (acc, st)
  | n + 1, acc, v :: st => z_args n (v :: acc) st
  | _ + 1, _, [] => none
def z_wb (fw : Nat → Nat) : List Nat → List AE → List AE → List AE
  | r :: ρ, σ, c :: σl => z_wb fw ρ (z_set σ r (z_ce fw c)) σl
  | [], σ, σl => σ ++ σl.map (z_ce fw)
  | _ :: _, σ, [] => σ
def z_appK : List AE → List AE → (List AE → Prop) → Prop
  | [], τ, k => k τ
  | c :: σ, τ, k => z_appK σ τ (fun σ => k (c :: σ))
def z_mapK (gK : Nat → (Nat → Prop) → Prop) : List AE → (List AE → Prop) → Prop
  | [], k => k []
  | c :: σ, k => z_ceK gK c (fun c => z_mapK gK σ (fun σ => k (c :: σ)))
def z_wbK (gK : Nat → (Nat → Prop) → Prop) : List Nat → List AE → List AE → (List AE → Prop) → Prop
  | r :: ρ, σ, c :: σl, k => z_ceK gK c (fun c => z_setK σ r c (fun σ => z_wbK gK ρ σ σl k))
  | [], σ, σl, k => z_mapK gK σl (fun τ => z_appK σ τ k)
  | _ :: _, σ, [], k => k σ
/-- a callee's specification: rank, cells, slots, paths of its world, predicate transformer (none: its world stays) -/
abbrev Tr : Type := List Value → List AE → (Option Value → Option (List AE) → Prop) → Prop
abbrev Sp : Type := Nat × Nat × Nat × List (Nat × List Nat) × Tr
def z_rm (rk mc ms : Nat) : Room := { frames := rk + 1, cells := mc, slots := ms, locals := 100 * (rk + 1) }
def z_U : List Cond := lw_tbl.filter goodWord
def z_ws (j : Nat) : List Cond := .code (k_y j) (k_co j) (k_nL j) (k_re j) :: z_U
def z_tys (cy : Nat → ClassId) : List (ClassId × FieldType) := [(cy 0, .int), (cy 1, .byte), (cy 2, .boolean), (cy 3, .object "ApprovalRoutes$State")]
def z_byt (n : Nat) : Int32 := nI n
/-- what stands beside the world and never changes: static arrays (places 3000 ..), texts (2000 .., their bytes 5000 ..), the formatter (6000), the script (4000), links between nest mates -/
def z_Amb (X : Option (Nat × (Nat → Int32))) (ad : Nat → Nat) (A : Nat → Prop) (U : State) (H : Heap) : Prop :=
  (∀ (i : Nat) (xs : List Nat), k_SA[i]? = some xs → va_Z (k_sg i).1 (k_sg i).2.1 (k_sg i).2.2 (.ref (ad (3000 + i))) A U H ∧ va_T .int (ad (3000 + i)) xs.length (fun j => .int (nI (xs.getD j 0))) A U H) ∧
  va_Z (k_sg 6).1 (k_sg 6).2.1 (k_sg 6).2.2 (.int 1) A U H ∧
  (va_Z (k_sg 7).1 (k_sg 7).2.1 (k_sg 7).2.2 .null A U H ∨ va_Z (k_sg 7).1 (k_sg 7).2.1 (k_sg 7).2.2 (.ref (ad 6000)) A U H) ∧
  (∀ (i : Nat) (xs : List Nat), k_str[i]? = some xs → va_O "java/lang/String" (ad (2000 + i)) A U H ∧ va_OF "java/lang/String" "coder" "B" (.int 0) (ad (2000 + i)) A U H ∧ va_OF "java/lang/String" "value" "[B" (.ref (ad (5000 + i))) (ad (2000 + i)) A U H ∧ va_T .byte (ad (5000 + i)) xs.length (fun j => .int (nI (xs.getD j 0))) A U H) ∧
  (∀ q ∈ k_LT, vk_R (k_cn q.1) q.2.1 (k_strT.getD q.2.2 "") (ad (2000 + q.2.2)) U) ∧
  (∀ q ∈ k_LMN, va_Nw (k_cLMN q) U) ∧ (∀ q ∈ k_LSN, va_Nw (k_cLSN q) U) ∧ va_AO "ApprovalRoutes$State" U ∧
  (∀ q, X = some q → va_X (ad 4000) q.1 q.2 U H ∧ ad 4000 < H.size ∧ ¬ A (ad 4000))
def z_ag (n0 : Nat) (ad ad0 : Nat → Nat) : Prop := ∀ k, (k < n0 ∨ 1000 ≤ k) → ad k = ad0 k
/-- how a method ends -/
def z_Q (D : va_G) (cy : Nat → ClassId) (ad0 : Nat → Nat) (A : Nat → Prop) (n0 MC : Nat) (Post : Option Value → List AE → Prop) : Array Value → State → Outcome → State → Prop := fun _ st o t =>
  (∃ (r : Option Value) (σ : List AE) (ad : Nat → Nat), Post r σ ∧ z_okR r σ = true ∧ n0 ≤ σ.length ∧ σ.length ≤ n0 + MC ∧ σ.length < 1000 ∧ z_ag n0 ad ad0 ∧ o = .returned (r.map (z_cv ad)) ∧ va_P D k_cl (z_wc cy ad 0 σ) t.heap ∧ va_D A (z_wc cy ad 0 σ)) ∧ va_F A st t
/-- a method's contract, at arguments and a world -/
def z_Ct (l : Launch) (j rk MC MS : Nat) (as : List Value) (σ : List AE) (Post : Option Value → List AE → Prop) : Prop :=
  ∀ (D : va_G) (cy : Nat → ClassId) (ad : Nat → Nat) (sz : Nat), Met l (k_y j) (z_ws j) (z_rm rk MC MS) (va_Pc (as.map (z_cv ad)) (fun U => U.heap.size = sz ∧ σ.length < 1000 ∧ va_P D k_cl (z_wc cy ad 0 σ) U.heap ∧ va_K D k_cl (z_tys cy) U ∧ va_D (fun _ => True) (z_wc cy ad 0 σ) ∧ z_Amb none ad (va_A (z_wc cy ad 0 σ) sz) U U.heap))
    (z_Q D cy ad (va_A (z_wc cy ad 0 σ) sz) σ.length MC Post) MC MS (va_A (z_wc cy ad 0 σ) sz)
def z_V (l : Launch) (j : Nat) (sp : Sp) : Prop := ∀ (as : List Value) (σ : List AE) (K : Option Value → Option (List AE) → Prop), sp.2.2.2.2 as σ K →
  z_Ct l j sp.1 sp.2.1 sp.2.2.1 as σ (fun r σ' => (σ' = σ ∧ K r none) ∨ K r (some σ'))
/-- the machine's context in a method -/
def z_Cx (l : Launch) (j : Nat) (X : Option (Nat × (Nat → Int32))) (p : Program) (s : State) (m : MethodId) (args : Array Value) (meth : Method) (c : Code) (D : va_G) (cy : Nat → ClassId) (ad0 : Nat → Nat) (A : Nat → Prop) : Prop :=
  p.tables.exec = Jvm.exec ∧ c.code = k_co j ∧ c.maxLocals = k_nL j ∧ meth.sig.returnType = k_re j ∧ meth.locks = false ∧ (k_ki j = 2 → meth.name = "<init>") ∧ s.vm.findClass (k_cn (k_ci j)) = some m.cls ∧ (∀ w ∈ z_U, w.before args s = true) ∧
  va_K D k_cl (z_tys cy) s ∧ z_Amb X ad0 A s s.heap ∧ ∀ q, s.heap.size ≤ q → A q
/-- the abstract judgement: from this point of method j the machine comes to a return that meets Post -/
def AW (l : Launch) (j rk MC MS n0 : Nat) (X : Option (Nat × (Nat → Int32))) (Post : Option Value → List AE → Prop) (pc : Nat) (L : LC) (st : List Value) (σ : List AE) (ce sl : Nat) : Prop :=
  ∀ (p : Program) (e : Env) (s : State) (m : MethodId) (args : Array Value) (below : List Frame) (meth : Method) (c : Code) (D : va_G) (cy : Nat → ClassId) (ad0 : Nat → Nat) (A : Nat → Prop), z_Cx l j X p s m args meth c D cy ad0 A →
  ∀ (ad : Nat → Nat) (ls : Array Slot) (H : Heap) (locs : List Loc), z_ag n0 ad ad0 → n0 ≤ σ.length → σ.length ≤ n0 + ce → σ.length < 1000 → lv_has ls (k_nL j) (z_kn ad 0 L) → va_P D k_cl (z_wc cy ad 0 σ) H → va_D A (z_wc cy ad 0 σ) → va_S A s.heap H locs →
  W p l e (z_rm rk MC MS) s m args below meth c H locs ce sl (MQ below (z_Q D cy ad0 A n0 MC Post) args s MC MS A) (F0 m pc ls (st.map (z_cv ad)))
abbrev KT : Type := LC → List Value → List AE → Nat → Nat → Prop
def z_cs : List Value → Nat
  | [] => 0
  | v :: vs => v.category + z_cs vs
def z_nn (t u : Nat) : Int32 := match u with
  | 0 => Int32.ofInt (t : Int)
  | _ => Int32.ofInt (-(t : Int))
/-- a place of locals may be overwritten: no long ends there -/
def z_okS (L : LC) (i : Nat) : Bool := match i with
  | 0 => true
  | i + 1 => (match z_nth L i with
    | some (some (.long _)) => false
    | some (some (.double _)) => false
    | _ => true)
def z_rcv (σ : List AE) (v : Value) (ci : Nat) : Bool := match v with
  | .ref k => (match Nat.ble 1000 k with
    | false => (match z_nth σ k with
      | some (.inr (.inr (c, _))) => Nat.beq c ci
      | _ => false)
    | true => Nat.beq ci 12 && (Nat.ble 2000 k && Nat.blt k 2019))
  | _ => false
def z_N (mc len : Nat) : Nat := match mc with
  | 0 => 1000
  | _ + 1 => len
def z_push (fw : Nat → Nat) (r : Option Value) (st : List Value) : List Value := match r with
  | some v => z_cv fw v :: st
  | none => st
def z_pushK (gK : Nat → (Nat → Prop) → Prop) (r : Option Value) (st : List Value) (k : List Value → Prop) : Prop := match r with
  | some v => z_cvK gK v (fun v => k (v :: st))
  | none => k st
/-- what goes on behind a call -/
def z_kk (mc ms N : Nat) (ρ : List Nat) (rest : List Value) (σ : List AE) (ce sl : Nat) (k : List Value → List AE → Nat → Nat → Prop) : Option Value → Option (List AE) → Prop := fun r o => match o with
  | none => z_pushK (z_fwK ρ N) r rest (fun st => k st σ (ce + mc) (sl + ms))
  | some σl => (match mc with
    | 0 => z_pushK (z_fwK ρ N) r rest (fun st => z_wbK (z_fwK ρ N) ρ σ σl (fun σ => k st σ ce (sl + ms)))
    | n + 1 => z_pushK (z_fwK (ρ ++ List.range' σ.length (σl.length - ρ.length)) N) r rest (fun st => z_wbK (z_fwK (ρ ++ List.range' σ.length (σl.length - ρ.length)) N) ρ σ σl (fun σ => k st σ (ce + (n + 1)) (sl + ms))))
/-- no place that is still free is named -/
def z_okW (N : Nat) (L : LC) (st : List Value) (σ : List AE) : Bool := L.all (z_okO N) && (st.all (z_okV N) && σ.all (z_okC N))
def z_okA (mc : Nat) (L : LC) (args rest : List Value) (σ : List AE) : Bool := match mc with
  | 0 => true
  | _ + 1 => z_okW σ.length L (args ++ rest) σ && Nat.ble (σ.length + mc) 900
/-- a call: the callee's contract is to be given, then its transformer -/
def z_call (l : Launch) (rk MC MS j : Nat) (L : LC) (args rest : List Value) (σ : List AE) (ce sl : Nat) (k : List Value → List AE → Nat → Nat → Prop) : Prop :=
  ∃ sp : Sp, z_V l j sp ∧ sp.1 < rk ∧ (match Nat.ble (ce + sp.2.1) MC && (Nat.ble (sl + sp.2.2.1) MS && Nat.ble (z_cs rest) 8) with
    | true => z_rho σ args sp.2.2.2.1 (fun ρ => match z_okr ρ σ.length && (Nat.blt ρ.length 1000 && z_okA sp.2.1 L args rest σ) with
      | true => z_lw σ ρ ρ (fun σl => z_vsK (z_ivK ρ) args (fun args => sp.2.2.2.2 args σl (z_kk sp.2.1 sp.2.2.1 (z_N sp.2.1 σ.length) ρ rest σ ce sl k)))
      | false => False)
    | false => False)
def z_sw (jm : Nat → Prop) (pc : Nat) (x : Int32) : Int → List Int → Prop
  | _, [] => True
  | lo, o :: os => (x = Int32.ofInt lo → jm ((pc : Int) + o).toNat) ∧ z_sw jm pc x (lo + 1) os
def z_lk (jm : Nat → Prop) (pc : Nat) (d : Int) (x : Int32) : List (Int × Int) → Prop
  | [] => jm ((pc : Int) + d).toNat
  | (a, o) :: r => (x = Int32.ofInt a → jm ((pc : Int) + o).toNat) ∧ (¬ x = Int32.ofInt a → z_lk jm pc d x r)
def z_ldi (L : LC) (i : Nat) (st : List Value) (k : List Value → Prop) : Prop := match z_nth L i with
  | some (some (.int v)) => k (.int v :: st)
  | _ => False
def z_ldl (L : LC) (i : Nat) (st : List Value) (k : List Value → Prop) : Prop := match z_nth L i with
  | some (some (.long v)) => k (.long v :: st)
  | _ => False
def z_ldr (L : LC) (i : Nat) (st : List Value) (k : List Value → Prop) : Prop := match z_nth L i with
  | some (some (.ref v)) => k (.ref v :: st)
  | _ => False
def z_lda (L : LC) (i : Nat) (st : List Value) (k : List Value → Prop) : Prop := match z_nth L i with
  | some (some (.ref v)) => k (.ref v :: st)
  | some (some .null) => k (.null :: st)
  | _ => False
def z_sto (L : LC) (i nL : Nat) (v : Value) (k : LC → Prop) : Prop := match Nat.blt i nL && z_okS L i with
  | true => z_setK L i (some v) k
  | false => False
def z_sto2 (L : LC) (i nL : Nat) (v : Value) (k : LC → Prop) : Prop := match Nat.blt (i + 1) nL && z_okS L i with
  | true => z_setK L i (some v) (fun L => z_setK L (i + 1) none k)
  | false => False
def z_off (a b : Nat) : Nat := a - b
def z_al (k0 : Nat) (X : Option (Nat × (Nat → Int32))) (σ : List AE) (a : Nat) (i : Int32) (k : Int32 → Prop) : Prop := match Nat.ble 1000 a with
  | false => (match z_nth σ a with
    | some (.inl (kd, n, f)) => (match Nat.beq kd k0 with
      | true => vp_in i n ∧ k (f i.toNatClampNeg)
      | false => False)
    | _ => False)
  | true => (match k0 with
    | 0 => (match Nat.beq a 4000 with
      | true => (match X with
        | some q => vp_in i q.1 ∧ k (q.2 i.toNatClampNeg)
        | none => False)
      | false => (match Nat.ble 3000 a with
        | true => (match z_nth k_SA (z_off a 3000) with
          | some xs => vp_in i xs.length ∧ k (nI (xs.getD i.toNatClampNeg 0))
          | none => False)
        | false => False))
    | _ => (match Nat.ble 5000 a with
      | true => (match z_nth k_str (z_off a 5000) with
        | some xs => vp_in i xs.length ∧ k (nI (xs.getD i.toNatClampNeg 0))
        | none => False)
      | false => False))
def z_len (X : Option (Nat × (Nat → Int32))) (σ : List AE) (a : Nat) (k : Int32 → Prop) : Prop := match Nat.ble 1000 a with
  | false => False
  | true => (match Nat.beq a 4000 with
    | true => (match X with
      | some q => q.1 ≤ 3072 ∧ k (nI q.1)
      | none => False)
    | false => (match Nat.ble 5000 a with
      | true => (match z_nth k_str (z_off a 5000) with
        | some xs => k (nI xs.length)
        | none => False)
      | false => False))
def z_cond (c : ClassFile.Cond) (x y : Int32) : Prop := match c with
  | .eq => x = y
  | .ne => x ≠ y
  | .lt => x < y
  | .ge => y ≤ x
  | .gt => y < x
  | .le => x ≤ y
/-- the weakest precondition of one instruction: k goes on behind it, jm jumps, rt returns -/
def z_step (l : Launch) (rk MC MS nL : Nat) (X : Option (Nat × (Nat → Int32))) (ret : Option FieldType) (pc : Nat) (i : Instr) (t u : Nat) (L : LC) (st : List Value) (σ : List AE) (ce sl : Nat) (k : KT) (jm : Nat → KT) (rt : Option Value → List AE → Nat → Nat → Prop) : Prop := match i with
  | .aload_n n => z_lda L n.val st (fun st => k L st σ ce sl)
  | .iload_n n => z_ldi L n.val st (fun st => k L st σ ce sl)
  | .lload_n n => z_ldl L n.val st (fun st => k L st σ ce sl)
  | .aload n => z_ldr L n st (fun st => k L st σ ce sl)
  | .iload n => z_ldi L n st (fun st => k L st σ ce sl)
  | .lload n => z_ldl L n st (fun st => k L st σ ce sl)
  | .iconst _ => k L (.int (z_nn t u) :: st) σ ce sl
  | .bipush _ => k L (.int (z_nn t u) :: st) σ ce sl
  | .sipush _ => k L (.int (z_nn t u) :: st) σ ce sl
  | .lconst n => k L (.long (lN n.val) :: st) σ ce sl
  | .ldc _ => (match u with
    | 0 => k L (.ref (2000 + t) :: st) σ ce sl
    | _ => k L (.int (nI t) :: st) σ ce sl)
  | .ldc_w _ => (match u with
    | 0 => k L (.ref (2000 + t) :: st) σ ce sl
    | _ => k L (.int (nI t) :: st) σ ce sl)
  | .ldc2_w _ => k L (.long (k_lv t u) :: st) σ ce sl
  | .istore_n n => (match st with
    | .int v :: st => z_sto L n.val nL (.int v) (fun L => k L st σ ce sl)
    | _ => False)
  | .istore n => (match st with
    | .int v :: st => z_sto L n nL (.int v) (fun L => k L st σ ce sl)
    | _ => False)
  | .astore_n n => (match st with
    | .ref v :: st => z_sto L n.val nL (.ref v) (fun L => k L st σ ce sl)
    | _ => False)
  | .lstore_n n => (match st with
    | .long v :: st => z_sto2 L n.val nL (.long v) (fun L => k L st σ ce sl)
    | _ => False)
  | .lstore n => (match st with
    | .long v :: st => z_sto2 L n nL (.long v) (fun L => k L st σ ce sl)
    | _ => False)
  | .iinc n _ => (match z_nth L n with
    | some (some (.int x)) => z_sto L n nL (.int (x + z_nn t u)) (fun L => k L st σ ce sl)
    | _ => False)
  | .dup => (match st with
    | .int a :: st => k L (.int a :: .int a :: st) σ ce sl
    | .ref a :: st => k L (.ref a :: .ref a :: st) σ ce sl
    | _ => False)
  | .dup2 => (match st with
    | .int a :: .ref b :: st => k L (.int a :: .ref b :: .int a :: .ref b :: st) σ ce sl
    | _ => False)
  | .pop => (match st with
    | .int _ :: st => k L st σ ce sl
    | .ref _ :: st => k L st σ ce sl
    | _ => False)
  | .iadd => (match st with
    | .int y :: .int x :: st => k L (.int (x + y) :: st) σ ce sl
    | _ => False)
  | .isub => (match st with
    | .int y :: .int x :: st => k L (.int (x - y) :: st) σ ce sl
    | _ => False)
  | .imul => (match st with
    | .int y :: .int x :: st => k L (.int (x * y) :: st) σ ce sl
    | _ => False)
  | .iand => (match st with
    | .int y :: .int x :: st => k L (.int (x &&& y) :: st) σ ce sl
    | _ => False)
  | .ior => (match st with
    | .int y :: .int x :: st => k L (.int (x ||| y) :: st) σ ce sl
    | _ => False)
  | .ixor => (match st with
    | .int y :: .int x :: st => k L (.int (x ^^^ y) :: st) σ ce sl
    | _ => False)
  | .idiv => (match st with
    | .int y :: .int x :: st => ¬ y = 0 ∧ k L (.int (x / y) :: st) σ ce sl
    | _ => False)
  | .irem => (match st with
    | .int y :: .int x :: st => ¬ y = 0 ∧ k L (.int (x - x / y * y) :: st) σ ce sl
    | _ => False)
  | .ishl => (match st with
    | .int y :: .int x :: st => k L (.int (x <<< (y &&& 31)) :: st) σ ce sl
    | _ => False)
  | .ishr => (match st with
    | .int y :: .int x :: st => k L (.int (x >>> (y &&& 31)) :: st) σ ce sl
    | _ => False)
  | .ladd => (match st with
    | .long y :: .long x :: st => k L (.long (x + y) :: st) σ ce sl
    | _ => False)
  | .lsub => (match st with
    | .long y :: .long x :: st => k L (.long (x - y) :: st) σ ce sl
    | _ => False)
  | .land => (match st with
    | .long y :: .long x :: st => k L (.long (x &&& y) :: st) σ ce sl
    | _ => False)
  | .lor => (match st with
    | .long y :: .long x :: st => k L (.long (x ||| y) :: st) σ ce sl
    | _ => False)
  | .lxor => (match st with
    | .long y :: .long x :: st => k L (.long (x ^^^ y) :: st) σ ce sl
    | _ => False)
  | .lshl => (match st with
    | .int y :: .long x :: st => k L (.long (x <<< (y.toInt64 &&& 63)) :: st) σ ce sl
    | _ => False)
  | .lshr => (match st with
    | .int y :: .long x :: st => k L (.long (x >>> (y.toInt64 &&& 63)) :: st) σ ce sl
    | _ => False)
  | .lushr => (match st with
    | .int y :: .long x :: st => k L (.long (x.toUInt64 >>> (y.toInt64.toUInt64 &&& Int64.toUInt64 63)).toInt64 :: st) σ ce sl
    | _ => False)
  | .lcmp => (match st with
    | .long y :: .long x :: st => k L (.int (lg_cmp x y) :: st) σ ce sl
    | _ => False)
  | .i2l => (match st with
    | .int x :: st => k L (.long x.toInt64 :: st) σ ce sl
    | _ => False)
  | .l2i => (match st with
    | .long x :: st => k L (.int x.toInt32 :: st) σ ce sl
    | _ => False)
  | .i2b => (match st with
    | .int x :: st => k L (.int x.toInt8.toInt32 :: st) σ ce sl
    | _ => False)
  | .i2c => (match st with
    | .int x :: st => k L (.int (x.toUInt32 % 65536).toInt32 :: st) σ ce sl
    | _ => False)
  | .ifCond c _ => (match st with
    | .int x :: st => (z_cond c x 0 → jm t L st σ ce sl) ∧ (¬ z_cond c x 0 → k L st σ ce sl)
    | _ => False)
  | .if_icmp c _ => (match st with
    | .int y :: .int x :: st => (z_cond c x y → jm t L st σ ce sl) ∧ (¬ z_cond c x y → k L st σ ce sl)
    | _ => False)
  | .goto _ => jm t L st σ ce sl
  | .tableswitch d lo hi os => (match st with
    | .int x :: st => ((x.toInt < lo ∨ hi < x.toInt) → jm ((pc : Int) + d).toNat L st σ ce sl) ∧ z_sw (fun t => jm t L st σ ce sl) pc x lo os.toList
    | _ => False)
  | .lookupswitch d ps => (match st with
    | .int x :: st => z_lk (fun t => jm t L st σ ce sl) pc d x ps.toList
    | _ => False)
  | .iaload => (match st with
    | .int i :: .ref a :: st => z_al 0 X σ a i (fun v => k L (.int v :: st) σ ce sl)
    | _ => False)
  | .baload => (match st with
    | .int i :: .ref a :: st => (match Nat.ble 1000 a with
      | false => (match z_nth σ a with
        | some (.inl (kd, n, f)) => (match Nat.beq kd 1 || Nat.beq kd 2 with
          | true => vp_in i n ∧ k L (.int (f i.toNatClampNeg) :: st) σ ce sl
          | false => False)
        | _ => False)
      | true => z_al 1 X σ a i (fun v => k L (.int v :: st) σ ce sl))
    | _ => False)
  | .iastore => (match st with
    | .int x :: .int i :: .ref a :: st => (match Nat.ble 1000 a with
      | false => (match z_nth σ a with
        | some (.inl (kd, n, f)) => (match Nat.beq kd 0 with
          | true => vp_in i n ∧ z_setK σ a (.inl (kd, n, upd f i.toNatClampNeg x)) (fun σ => k L st σ ce sl)
          | false => False)
        | _ => False)
      | true => False)
    | _ => False)
  | .bastore => (match st with
    | .int x :: .int i :: .ref a :: st => (match Nat.ble 1000 a with
      | false => (match z_nth σ a with
        | some (.inl (kd, n, f)) => (match kd with
          | 1 => vp_in i n ∧ z_setK σ a (.inl (kd, n, upd f i.toNatClampNeg (vp_nar .byte x))) (fun σ => k L st σ ce sl)
          | 2 => vp_in i n ∧ z_setK σ a (.inl (kd, n, upd f i.toNatClampNeg (vp_nar .boolean x))) (fun σ => k L st σ ce sl)
          | _ => False)
        | _ => False)
      | true => False)
    | _ => False)
  | .aaload => (match st with
    | .int i :: .ref a :: st => (match Nat.ble 1000 a with
      | false => (match z_nth σ a with
        | some (.inr (.inl rs)) => ∃ g : Nat, vp_in i rs.length ∧ rs[i.toNatClampNeg]? = some (some g) ∧ k L (.ref g :: st) σ ce sl
        | _ => False)
      | true => False)
    | _ => False)
  | .aastore => (match st with
    | .ref g :: .int i :: .ref a :: st => (match Nat.ble 1000 a || Nat.ble 1000 g with
      | false => (match z_nth σ a with
        | some (.inr (.inl rs)) => (match z_nth σ g with
          | some (.inr (.inr (ci, _))) => (match Nat.beq ci 6 with
            | true => vp_in i rs.length ∧ z_setK σ a (.inr (.inl (rs.set i.toNatClampNeg (some g)))) (fun σ => k L st σ ce sl)
            | false => False)
          | _ => False)
        | _ => False)
      | true => False)
    | _ => False)
  | .arraylength => (match st with
    | .ref a :: st => z_len X σ a (fun v => k L (.int v :: st) σ ce sl)
    | _ => False)
  | .getfield _ => (match st with
    | .ref a :: st => (match Nat.ble 1000 a with
      | false => (match z_nth σ a with
        | some (.inr (.inr (ci, fs))) => (match Nat.beq ci u with
          | true => (match z_nth fs t with
            | some v => k L (v :: st) σ ce sl
            | none => False)
          | false => False)
        | _ => False)
      | true => (match Nat.beq u 12 && (Nat.ble 2000 a && Nat.blt a 2019) with
        | true => (match t with
          | 0 => k L (.ref (a + 3000) :: st) σ ce sl
          | 1 => k L (.int 0 :: st) σ ce sl
          | _ => False)
        | false => False))
    | _ => False)
  | .putfield _ => (match st with
    | v :: .ref a :: st => (match Nat.ble 1000 a with
      | false => (match z_nth σ a with
        | some (.inr (.inr (ci, fs))) => (match Nat.beq ci u && Nat.blt t fs.length with
          | true => (match k_fty u t with
            | .int => (match v with
              | .int x => z_setK fs t (.int x) (fun fs => z_setK σ a (.inr (.inr (ci, fs))) (fun σ => k L st σ ce sl))
              | _ => False)
            | .boolean => (match v with
              | .int x => (x = 0 ∨ x = 1) ∧ z_setK fs t (.int x) (fun fs => z_setK σ a (.inr (.inr (ci, fs))) (fun σ => k L st σ ce sl))
              | _ => False)
            | .object _ => (match v with
              | .ref x => z_setK fs t (.ref x) (fun fs => z_setK σ a (.inr (.inr (ci, fs))) (fun σ => k L st σ ce sl))
              | _ => False)
            | .array _ => (match v with
              | .ref x => z_setK fs t (.ref x) (fun fs => z_setK σ a (.inr (.inr (ci, fs))) (fun σ => k L st σ ce sl))
              | _ => False)
            | _ => False)
          | false => False)
        | _ => False)
      | true => False)
    | _ => False)
  | .getstatic _ => (match t with
    | 6 => k L (.int 1 :: st) σ ce sl
    | 7 => k L (.null :: st) σ ce sl ∧ k L (.ref 6000 :: st) σ ce sl
    | _ => (match Nat.blt t 6 with
      | true => k L (.ref (3000 + t) :: st) σ ce sl
      | false => False))
  | .invokevirtual _ => (match Nat.blt t k_nM with
    | true => (match z_args u [] st with
      | some (v :: args, rest) => (match z_rcv σ v (k_ci t) with
        | true => z_call l rk MC MS t L (v :: args) rest σ ce sl (k L)
        | false => False)
      | _ => False)
    | false => False)
  | .invokestatic _ => (match Nat.blt t k_nM with
    | true => (match z_args u [] st with
      | some (args, rest) => z_call l rk MC MS t L args rest σ ce sl (k L)
      | _ => False)
    | false => (match t with
      | 1000 => (match st with
        | .int y :: .int x :: st => (match Nat.ble (z_cs st) 8 && (Nat.ble ce MC && Nat.ble sl MS) with
          | true => k L (.int (if x < y then y else x) :: st) σ ce sl
          | false => False)
        | _ => False)
      | 1001 => (match st with
        | .int y :: .int x :: st => (match Nat.ble (z_cs st) 8 && (Nat.ble ce MC && Nat.ble sl MS) with
          | true => k L (.int (if y < x then y else x) :: st) σ ce sl
          | false => False)
        | _ => False)
      | 1002 => (match st with
        | .int n :: .int dp :: .ref b :: .int sp :: .ref a :: st => (match Nat.ble 1000 a || (Nat.ble 1000 b || Nat.blt 8 (z_cs st)) with
          | false => (match z_nth σ a with
            | some (.inl (k0, n0, f)) => (match z_nth σ b with
              | some (.inl (k1, n1, g)) => (match Nat.beq k0 0 && Nat.beq k1 0 with
                | true => ¬ sp < 0 ∧ ¬ dp < 0 ∧ ¬ n < 0 ∧ sp.toNatClampNeg + n.toNatClampNeg ≤ n0 ∧ dp.toNatClampNeg + n.toNatClampNeg ≤ n1 ∧ z_setK σ b (.inl (k1, n1, va_cpy f g sp.toNatClampNeg dp.toNatClampNeg n.toNatClampNeg)) (fun σ => k L st σ ce sl)
                | false => False)
              | _ => False)
            | _ => False)
          | true => False)
        | _ => False)
      | _ => False))
  | .invokespecial _ => (match Nat.blt t k_nM with
    | true => (match z_args u [] st with
      | some (.ref v :: args, rest) => z_call l rk MC MS t L (.ref v :: args) rest σ ce sl (k L)
      | _ => False)
    | false => (match t with
      | 1003 => (match st with
        | .ref _ :: st => (match Nat.ble (z_cs st) 8 with
          | true => k L st σ ce sl
          | false => False)
        | _ => False)
      | _ => False))
  | .new _ => (match Nat.ble (ce + 1) MC && (Nat.ble σ.length 900 && z_okW σ.length L st σ) with
    | true => (match z_nth k_new u with
      | some fs => (match Nat.ble (sl + fs.length) MS with
        | true => (match z_lenO σ z_nums with
          | some n => z_snocK σ (.inr (.inr (u, fs))) (fun σ => k L (.ref n :: st) σ (ce + 1) (sl + fs.length))
          | none => False)
        | false => False)
      | none => False)
    | false => False)
  | .newarray _ => (match st with
    | .int n :: st => ∃ N : Nat, n = nI N ∧ N ≤ 100000 ∧ sl + N ≤ MS ∧ (match Nat.ble (ce + 1) MC && (Nat.ble σ.length 900 && z_okW σ.length L st σ) with
      | true => (match z_lenO σ z_nums with
        | some n => z_snocK σ (.inl (t, N, fun _ => 0)) (fun σ => k L (.ref n :: st) σ (ce + 1) (sl + N))
        | none => False)
      | false => False)
    | _ => False)
  | .anewarray _ => (match st with
    | .int n :: st => ∃ N : Nat, n = nI N ∧ N ≤ 100000 ∧ sl + N ≤ MS ∧ (match Nat.ble (ce + 1) MC && (Nat.ble σ.length 900 && z_okW σ.length L st σ) with
      | true => (match z_lenO σ z_nums with
        | some n => z_snocK σ (.inr (.inl (List.replicate N none))) (fun σ => k L (.ref n :: st) σ (ce + 1) (sl + N))
        | none => False)
      | false => False)
    | _ => False)
  | .return_ => (match ret with
    | none => (match st with
      | [] => rt none σ ce sl
      | _ => False)
    | some _ => False)
  | .ireturn => (match st with
    | [.int v] => (match ret with
      | some .int => rt (some (.int v)) σ ce sl
      | some .boolean => (v = 0 ∨ v = 1) ∧ rt (some (.int v)) σ ce sl
      | some .byte => narrow .byte (.int v) = .int v ∧ rt (some (.int v)) σ ce sl
      | some .char => narrow .char (.int v) = .int v ∧ rt (some (.int v)) σ ce sl
      | _ => False)
    | _ => False)
  | .lreturn => (match st with
    | [.long v] => (match ret with
      | some .long => rt (some (.long v)) σ ce sl
      | _ => False)
    | _ => False)
  | .areturn => (match st with
    | [.ref v] => (match ret with
      | some (.object _) => rt (some (.ref v)) σ ce sl
      | _ => False)
    | _ => False)
  | _ => False
def z_blk : List BK → Nat → Option (List CI × Nat)
  | [], _ => none
  | (s, is, fall) :: r, t => (match Nat.beq s t with
    | true => some (is, fall)
    | false => z_blk r t)
/-- the walk of a method's blocks up to the cuts -/
def wp (l : Launch) (j rk MC MS n0 : Nat) (X : Option (Nat × (Nat → Int32))) (Post : Option Value → List AE → Prop) (nL : Nat) (ret : Option FieldType) (bs : List BK) (cuts : List Nat) : Nat → List CI → Nat → LC → List Value → List AE → Nat → Nat → Prop
  | 0, _, _, _, _, _, _, _ => False
  | n + 1, [], fall, L, st, σ, ce, sl => (match cuts.elem fall with
    | true => AW l j rk MC MS n0 X Post fall L st σ ce sl
    | false => (match z_blk bs fall with
      | some (is, fall) => wp l j rk MC MS n0 X Post nL ret bs cuts n is fall L st σ ce sl
      | none => False))
  | n + 1, (pc, i, t, u) :: is, fall, L, st, σ, ce, sl => z_step l rk MC MS nL X ret pc i t u L st σ ce sl
      (fun L st σ ce sl => wp l j rk MC MS n0 X Post nL ret bs cuts n is fall L st σ ce sl)
      (fun t L st σ ce sl => wp l j rk MC MS n0 X Post nL ret bs cuts n [] t L st σ ce sl)
      (fun r σ ce sl => match Nat.ble ce MC && (Nat.ble sl MS && z_okR r σ) with
        | true => Post r σ
        | false => False)
/-! what is checked of the tables by the kernel -/
def z_nx (is : List CI) (fall : Nat) : Nat := match is with
  | [] => fall
  | q :: _ => q.1
def z_ok (own : Nat) (ini : Bool) (pc : Nat) (i : Instr) (t u : Nat) : Bool := match i with
  | .iconst n => decide (Int32.ofInt n = z_nn t u)
  | .bipush n => decide ((Int8.ofInt n).toInt32 = z_nn t u)
  | .sipush n => decide ((Int16.ofInt n).toInt32 = z_nn t u)
  | .iinc _ n => decide (Int32.ofInt n = z_nn t u)
  | .ldc x => (match u with
    | 0 => k_LT.elem (own, x, t)
    | _ => k_LK.elem (own, x, t))
  | .ldc_w x => (match u with
    | 0 => k_LT.elem (own, x, t)
    | _ => k_LK.elem (own, x, t))
  | .ldc2_w x => k_LKL.elem (own, x, t, u)
  | .ifCond _ o => decide ((pc : Int) + o = (t : Int))
  | .if_icmp _ o => decide ((pc : Int) + o = (t : Int))
  | .goto o => decide ((pc : Int) + o = (t : Int))
  | .tableswitch d lo hi os => decide (0 ≤ (pc : Int) + d) && (decide (hi = lo + (os.size : Int) - 1) && (decide (-2147483648 ≤ lo) && (decide (hi ≤ 2147483647) && os.toList.all (fun o => decide (0 ≤ (pc : Int) + o)))))
  | .lookupswitch d ps => decide (0 ≤ (pc : Int) + d) && ((ps.toList.zip (ps.toList.drop 1)).all (fun (a, next) => a.1 < next.1) && ps.toList.all (fun o => decide (0 ≤ (pc : Int) + o.2) && (decide (-2147483648 ≤ o.1) && decide (o.1 ≤ 2147483647))))
  | .getfield x => k_LF.elem (own, x, u, t)
  | .putfield x => k_LF.elem (own, x, u, t) && (Nat.blt u 11 && (match k_cl[u]? with
    | some r => (match (r.2.1 t).2.2.2 with
      | true => ini && decide ((r.2.1 t).1 = k_cn own)
      | false => true)
    | none => false))
  | .getstatic x => (match u with
    | 0 => k_LS.elem (own, x, t)
    | _ => k_LSN.elem (own, x, t))
  | .invokevirtual x => (!Nat.blt t k_nM) || (k_LM.elem (own, x, t) && (k_LV.elem t && decide (u = k_na t)))
  | .invokestatic x => (match Nat.blt t k_nM with
    | true => (k_LM.elem (own, x, t) || k_LMN.elem (own, x, t)) && (k_LST.elem t && decide (u = k_na t))
    | false => k_LX.elem (own, x, t) || decide (t = 9999))
  | .invokespecial x => (match Nat.blt t k_nM with
    | true => k_LM.elem (own, x, t) && (k_LI.elem t && (decide (k_ki t = 2) && decide (u = k_na t)))
    | false => k_LX.elem (own, x, t) || decide (t = 9999))
  | .new x => k_LC.elem (own, x, u) && Nat.blt u 11
  | .anewarray x => k_LC.elem (own, x, 6)
  | .newarray a => (match a, t with
    | .int, 0 => true
    | .byte, 1 => true
    | .boolean, 2 => true
    | _, _ => false)
  | _ => true
def z_iln (i : Instr) (len : Nat) : Bool := match i with
  | .tableswitch .. => true
  | .lookupswitch .. => true
  | .aload _ | .iload _ | .lload _ | .istore _ | .lstore _ | .bipush _ | .ldc _ | .newarray _ => Nat.beq len 2
  | .sipush _ | .ldc_w _ | .ldc2_w _ | .iinc _ _ | .ifCond _ _ | .if_icmp _ _ | .goto _ | .getfield _ | .putfield _ | .getstatic _ | .invokevirtual _ | .invokestatic _ | .invokespecial _ | .new _ | .anewarray _ => Nat.beq len 3
  | _ => Nat.beq len 1
def z_chkB (cc : ByteArray) (own : Nat) (ini : Bool) : List CI → Nat → Bool
  | [], _ => true
  | (pc, i, t, u) :: is, fall => (match decode cc pc with
    | .ok (i', len) => decide (i' = i) && (decide (z_nx is fall = pc + len) && (z_iln i len && z_ok own ini pc i t u))
    | .error _ => false) && z_chkB cc own ini is fall
def z_chk (cc : ByteArray) (own : Nat) (ini : Bool) (bs : List BK) : Bool := bs.all (fun b => z_chkB cc own ini b.2.1 b.2.2 && decide (z_nx b.2.1 b.2.2 = b.1))
def z_chkM (j : Nat) (bs : List BK) : Bool := z_chk (k_co j) (k_ci j) (Nat.beq (k_ki j) 2) bs
