/-! EV: an evaluator of bytecode over a list of cells (EC: what kind, its slots), and its soundness over the machine.
An action (EA) is what one instruction does: it is given how methods are called, what comes behind it, the frame and the cells. -/
abbrev EC : Type := (Nat ⊕ Nat) × List Value
abbrev EH : Type := List EC × Nat × Nat
abbrev EF : Type := Nat × List (Nat × Value) × List Value
abbrev ER : Type := Option ((Option Value ⊕ String) × EH)
abbrev EK : Type := EF → EH → ER
abbrev ECall : Type := Nat → List Value → EH → ER
abbrev EA : Type := ECall → EK → EF → EH → ER
/-- the texts that a throw names; pairs of classes of which the first is none of the second; the script (outer cell 0): its length, its ints -/
abbrev EQ : Type := List (String × Nat × String) × List (String × String) × (Nat × (Nat → Int32))
/-- what a value of the evaluator is on the machine: cells by their places (al: their addresses), outer cells by numbers (ox) -/
def ev_rv (ox : Nat → Nat) (al : List Nat) : Value → Value
  | .ref a => .ref (al.getD a 0)
  | .float k => .ref (ox k.toNat)
  | v => v
/-- a value that speaks of n cells at most -/
def ev_ok (n : Nat) : Value → Prop
  | .ref a => a < n
  | _ => True
def ev_i : Value → Int32
  | .int x => x
  | _ => 0
def ev_l : Value → Int64
  | .long x => x
  | _ => 0
def ev_q (al : List Nat) : Value → Option Nat
  | .ref a => some (al.getD a 0)
  | _ => none
def ev_arr (al : List Nat) (t : Nat) (vs : List Value) : vp_A :=
  (vs.length, bif Nat.beq t 2 then .inr (.inl (fun j => ev_l (vs.getD j (.long 0)))) else bif Nat.ble 3 t then .inr (.inr (.inr (.inr (fun j => ev_q al (vs.getD j .null))))) else .inl (fun j => ev_i (vs.getD j (.int 0))))
def ev_e (cs : Nat → ClassId) (ox : Nat → Nat) (al : List Nat) (e : EC) : va_E := match e.1 with
  | .inl t => .inl (cs t, ev_arr al t e.2)
  | .inr c => .inr (c, e.2.map (ev_rv ox al))
def ev_w (cs : Nat → ClassId) (ox : Nat → Nat) (al : List Nat) (h : List EC) : va_W := (al.zip h).map (fun q => (q.1, ev_e cs ox al q.2))
/-- the kinds of arrays: 0 int[], 1 boolean[], (2: none), 3 int[][], 4 int[][][], 5 boolean[][] -/
def ev_ty : Nat → FieldType
  | 0 => .int
  | 1 => .boolean
  | 3 => .array .int
  | 4 => .array (.array .int)
  | 5 => .array .boolean
  | _ => .int
def ev_tys (cs : Nat → ClassId) : List (ClassId × FieldType) := [(cs 0, ev_ty 0), (cs 1, ev_ty 1), (cs 2, ev_ty 2), (cs 3, ev_ty 3), (cs 4, ev_ty 4), (cs 5, ev_ty 5)]
/-- of which kind the rows of a kind are -/
def ev_comp : List (Nat × Nat) := [(3, 0), (4, 3), (5, 1)]
def ev_isc (t c : Nat) : Bool := ev_comp.any (fun q => Nat.beq q.1 t && Nat.beq q.2 c)
def ev_Ra (cs : Nat → ClassId) (U : State) : Prop := ∀ q ∈ ev_comp, ∃ k, U.vm.classes[cs q.1]? = some k ∧ k.kind = .array (cs q.2) (ev_ty q.1)
/-- an array class of arrays of t is there -/
def ev_AO (t : FieldType) (U : State) : Prop := (Cond.arrayOver (.array t)).before #[] U = true
def ev_aos : List FieldType := [.int, .array .int, .boolean]
theorem ev_AO.of {t : FieldType} {A : Array Value} {U : State} (h : (Cond.arrayOver (.array t)).before A U = true) : ev_AO t U := h
theorem ev_AO.use {t : FieldType} {A : Array Value} {U : State} (h : ev_AO t U) : (Cond.arrayOver (.array t)).before A U = true := h
theorem ev_AO.moved {t : FieldType} {u U : State} (hvm : u.vm.Alike U.vm) (h : ev_AO t u) : ev_AO t U := by
  obtain ⟨comp, c, k, h1, h2, h3, h4, h5⟩ := arrayOverA_spec h
  obtain ⟨k', hk', he⟩ := hvm.2.2 _ _ h3
  have hi : (U.vm.classes.findIdx? fun (x : Class) => match x.kind with | .array component _ => component == comp | _ => false) = some c := by
    rw [hvm.findIdx?_eq _ (fun _ => rfl)]
    exact h2
  have hkind : k'.kind = .array comp (.array t) := by rw [he]; exact h4
  have f1 : U.vm.findClass (FieldType.array t).toString = some comp := by rw [hvm.findClass]; exact h1
  have f2 : U.vm.findClass ("[" ++ (FieldType.array t).toString) = some c := by rw [hvm.findClass]; exact h5
  unfold ev_AO Cond.before Cond.holds
  simp only [Cond.value]
  rw [f1, Option.bind_some]
  refine (congrArg (fun o : Option Nat => (o.bind (fun c => (U.vm.classes[c]?).map fun (k : Class) => match k.kind with | .array _ ty => decide (ty = FieldType.array t) && decide (U.vm.findClass ("[" ++ (FieldType.array t).toString) = some c) | _ => false) == some true)) hi).trans ?_
  simp [hk', hkind, f2]
/-- the script lies at outer cell 0, apart from what is written; the classes of arrays of arrays -/
def ev_Xt (cs : Nat → ClassId) (ox : Nat → Nat) (sc : Nat × (Nat → Int32)) (A : Nat → Prop) (U : State) : Prop :=
  va_X (ox 0) sc.1 sc.2 U U.heap ∧ ox 0 < U.heap.size ∧ ¬ A (ox 0) ∧ ev_Ra cs U ∧ ∀ t ∈ ev_aos, ev_AO t U
theorem ev_Ra.moved {cs : Nat → ClassId} {u U : State} (hvm : u.vm.Alike U.vm) (h : ev_Ra cs u) : ev_Ra cs U := by
  intro q hq
  obtain ⟨k, h1, h2⟩ := h q hq
  obtain ⟨k', hk', he⟩ := hvm.2.2 _ _ h1
  exact ⟨k', hk', by rw [he]; exact h2⟩
theorem ev_Xt.moved {cs : Nat → ClassId} {ox : Nat → Nat} {sc : Nat × (Nat → Int32)} {A : Nat → Prop} {u U : State} (hvm : u.vm.Alike U.vm) (hz : u.heap.size ≤ U.heap.size) (hq : ∀ a : Nat, a < u.heap.size → ¬ A a → U.heap[a]? = u.heap[a]?) (h : ev_Xt cs ox sc A u) : ev_Xt cs ox sc A U := by
  obtain ⟨⟨scr, h1, h2, h3, h4⟩, h5, h6, h7, h8⟩ := h
  exact ⟨⟨scr, by rw [hq _ h5 h6]; exact h1, State.isArrayOf_alike hvm h2, h3, h4⟩, Nat.lt_of_lt_of_le h5 hz, h6, h7.moved hvm, fun t ht => (h8 t ht).moved hvm⟩
/-- no cell speaks of a place that isn't there -/
def ev_wf (h : List EC) : Prop := ∀ e ∈ h, ∀ v ∈ e.2, ev_ok h.length v
/-- the world: the cells lie at their addresses, apart, within A; nothing outside A has changed since H0 -/
def ev_Wd (D : va_G) (cl : List vw_C) (cs : Nat → ClassId) (ox : Nat → Nat) (A : Nat → Prop) (H0 : Heap) (al0 : List Nat) (al : List Nat) (h : List EC) (H : Heap) (locs : List Loc) : Prop :=
  al0 <+: al ∧ al.length = h.length ∧ va_P D cl (ev_w cs ox al h) H ∧ va_D A (ev_w cs ox al h) ∧ va_S A H0 H locs ∧ ev_wf h
/-- from this frame and these cells the machine comes to Q, within the room up to ck, cn -/
def ev_G (p : Program) (l : Launch) (e : Env) (R : Room) (s : State) (m : MethodId) (args : Array Value) (below : List Frame) (meth : Method) (c : Code) (Q : State → Prop)
    (D : va_G) (cl : List vw_C) (cs : Nat → ClassId) (ox : Nat → Nat) (A : Nat → Prop) (al0 : List Nat) (nL k0 n0 ck cn : Nat) (f : EF) (hs : EH) : Prop :=
  k0 ≤ hs.2.1 → n0 ≤ hs.2.2 → hs.2.1 ≤ ck ∧ hs.2.2 ≤ cn ∧ ∀ (al : List Nat) (H : Heap) (locs : List Loc) (ls : Array Slot), ev_Wd D cl cs ox A s.heap al0 al hs.1 H locs →
    (∀ q ∈ f.2.1, ev_ok hs.1.length q.2) → (∀ v ∈ f.2.2, ev_ok hs.1.length v) → lv_has ls nL (f.2.1.map (fun q => (q.1, ev_rv ox al q.2))) →
    W p l e R s m args below meth c H locs (hs.2.1 - k0) (hs.2.2 - n0) Q (F0 m f.1 ls (f.2.2.map (ev_rv ox al)))
def ev_ret (v : Option Value) (ig : Instr) : Prop := match v with
  | none => ig = .return_
  | some (.int _) => ig = .ireturn
  | some (.long _) => ig = .lreturn
  | some (.double _) => ig = .dreturn
  | some (.ref _) => ig = .areturn
  | _ => False
/-- words that are kept as premises of their own: nest mates' links, what a throw asks beside -/
def ev_nestw : Cond → Bool
  | .fieldLinkNest _ _ _ _ _ _ => true
  | .methodLinkNest _ _ _ _ => true
  | .declares _ => true
  | .castable _ _ => true
  | _ => false
theorem ev_nestw_on {w : Cond} (h : ev_nestw w = true) : w.onTables = true := by
  cases w <;> first | rfl | cases h
/-- what holds of a state whatever its method: the classes' tables, the nest mates' words, what a throw needs, the texts -/
def ev_Sr (D : va_G) (cl : List vw_C) (cs : Nat → ClassId) (ox : Nat → Nat) (Tn : List Cond) (Tq : EQ) (A : Nat → Prop) (U : State) : Prop :=
  va_K D cl (ev_tys cs) U ∧ (∀ q, U.heap.size ≤ q → A q) ∧ (∀ w ∈ Tn, ev_nestw w = true ∧ va_Nw w U) ∧ vx_Zq Bundle.tN "UNASSIGNED_STACK" Bundle.steD A U U.heap ∧ vx_Zq Bundle.tN "SUPPRESSED_SENTINEL" Bundle.listD A U U.heap ∧
    (∀ q ∈ Tq.1, ∃ sa, vk_R q.1 q.2.1 q.2.2 sa U) ∧ (∀ q ∈ Tq.2.1, va_Nc q.1 q.2 U) ∧ ev_Xt cs ox Tq.2.2 A U
/-- what holds of the frame's surroundings -/
def ev_Cx (p : Program) (R : Room) (s : State) (m : MethodId) (args : Array Value) (c : Code) (cc : ByteArray) (nL : Nat) (hh : List (Nat × Nat × Nat × Nat)) (own : String) (Ts Tn : List Cond) (Tq : EQ) (D : va_G) (cl : List vw_C) (cs : Nat → ClassId) (ox : Nat → Nat) (A : Nat → Prop) (k0 n0 ck cn : Nat) : Prop :=
  CallFix p m c cc nL s args Ts own ∧ ev_Sr D cl cs ox Tn Tq A s ∧ c.exceptionTable.toList.map (fun h => (h.startPc, h.endPc, h.handlerPc, h.catchType)) = hh ∧ ck - k0 ≤ R.cells ∧ cn - n0 ≤ R.slots
/-- what Q asks of a frame that returns -/
def ev_Rt (p : Program) (l : Launch) (e : Env) (R : Room) (s : State) (m : MethodId) (args : Array Value) (below : List Frame) (meth : Method) (c : Code) (Q : State → Prop)
    (cc : ByteArray) (D : va_G) (cl : List vw_C) (cs : Nat → ClassId) (ox : Nat → Nat) (A : Nat → Prop) (al0 : List Nat) (k0 n0 : Nat) (v : Option Value) (hs : EH) : Prop :=
  ∀ (al : List Nat) (H : Heap) (locs : List Loc) (ls : Array Slot) (pc : Nat) (ig : Instr), ev_Wd D cl cs ox A s.heap al0 al hs.1 H locs → (∀ w ∈ v.toList, ev_ok hs.1.length w) → ev_ret v ig → decode cc pc = .ok (ig, 1) → k0 ≤ hs.2.1 → n0 ≤ hs.2.2 →
    W p l e R s m args below meth c H locs (hs.2.1 - k0) (hs.2.2 - n0) Q (F0 m pc ls (v.toList.map (ev_rv ox al)))
/-- what Q asks of a frame that throws E -/
def ev_Th (l : Launch) (s : State) (args : Array Value) (below : List Frame) (meth : Method) (c : Code) (Q : State → Prop)
    (D : va_G) (cl : List vw_C) (cs : Nat → ClassId) (ox : Nat → Nat) (A : Nat → Prop) (al0 : List Nat) (k0 n0 : Nat) (E : String) (hs : EH) : Prop :=
  l.stackTraces = false ∧ meth.locks = false ∧ (∀ x ∈ c.exceptionTable.toList, False) ∧ ∃ (Qc : Array Value → State → Outcome → State → Prop) (XC : String → State → State → Prop),
    Q = vx_MQ below Qc XC args s (hs.2.1 - k0) (hs.2.2 - n0) A ∧ ∀ (al : List Nat) (H : Heap) (locs : List Loc), ev_Wd D cl cs ox A s.heap al0 al hs.1 H locs → ∀ t : State, t.heap = H → s.vm.Alike t.vm → XC E s t
/-- the action a does what the instruction at pc does -/
def ev_Ok (cc : ByteArray) (nL : Nat) (hh : List (Nat × Nat × Nat × Nat)) (own : String) (Ts Tn : List Cond) (Tq : EQ) (cl : List vw_C) (isI : Bool) (CO : Launch → Room → (Nat → ClassId) → va_G → (Nat → Nat) → (Nat → Prop) → ECall → Prop) (pc : Nat) (a : EA) : Prop :=
  ∀ (p : Program) (l : Launch) (e : Env) (R : Room) (s : State) (m : MethodId) (args : Array Value) (below : List Frame) (meth : Method) (c : Code) (Q : State → Prop) (D : va_G) (cs : Nat → ClassId) (ox : Nat → Nat) (A : Nat → Prop) (al0 : List Nat) (k0 n0 : Nat) (call : ECall) (kont : EK) (f : EF) (hs : EH) (o : Option Value ⊕ String) (hs' : EH),
    ev_Cx p R s m args c cc nL hh own Ts Tn Tq D cl cs ox A k0 n0 hs'.2.1 hs'.2.2 → (isI = true → meth.name = "<init>") → CO l R cs D ox A call →
    (∀ v, o = .inl v → ev_Rt p l e R s m args below meth c Q cc D cl cs ox A al0 k0 n0 v hs') →
    (∀ E, o = .inr E → ev_Th l s args below meth c Q D cl cs ox A al0 k0 n0 E hs') →
    f.1 = pc → a call kont f hs = some (o, hs') →
    (∀ f1 h1, kont f1 h1 = some (o, hs') → ev_G p l e R s m args below meth c Q D cl cs ox A al0 nL k0 n0 hs'.2.1 hs'.2.2 f1 h1) →
    ev_G p l e R s m args below meth c Q D cl cs ox A al0 nL k0 n0 hs'.2.1 hs'.2.2 f hs

theorem ev_allc {α : Type} {P : α → Prop} {x : α} {r : List α} (h1 : P x) (h2 : ∀ v ∈ r, P v) : ∀ v ∈ x :: r, P v := List.forall_mem_cons.mpr ⟨h1, h2⟩
theorem ev_hd {α : Type} {P : α → Prop} {x : α} {r : List α} (h : ∀ v ∈ x :: r, P v) : P x := h x List.mem_cons_self
theorem ev_tl {α : Type} {P : α → Prop} {x : α} {r : List α} (h : ∀ v ∈ x :: r, P v) : ∀ v ∈ r, P v := fun v hv => h v (List.mem_cons_of_mem _ hv)

def a_ii (n : Nat) (g : Int32 → Int32 → Int32) : EA := fun _ k f hs => match f.2.2 with
  | .int y :: .int x :: st => k (f.1 + n, f.2.1, .int (g x y) :: st) hs
  | _ => none
def a_iiN (g : Int32 → Int32 → Int32) : EA := fun _ k f hs => match f.2.2 with
  | .int y :: .int x :: st => if y = 0 then none else k (f.1 + 1, f.2.1, .int (g x y) :: st) hs
  | _ => none
def a_i (g : Int32 → Value) : EA := fun _ k f hs => match f.2.2 with
  | .int x :: st => k (f.1 + 1, f.2.1, g x :: st) hs
  | _ => none
def a_ll (g : Int64 → Int64 → Value) : EA := fun _ k f hs => match f.2.2 with
  | .long y :: .long x :: st => k (f.1 + 1, f.2.1, g x y :: st) hs
  | _ => none
def a_push (n : Nat) (v : Value) : EA := fun _ k f hs => k (f.1 + n, f.2.1, v :: f.2.2) hs
def a_goto (t : Nat) : EA := fun _ k f hs => k (t, f.2.1, f.2.2) hs
def a_if (t : Nat) (b : Int32 → Bool) : EA := fun _ k f hs => match f.2.2 with
  | .int x :: st => bif b x then k (t, f.2.1, st) hs else k (f.1 + 3, f.2.1, st) hs
  | _ => none
def a_ic (t : Nat) (b : Int32 → Int32 → Bool) : EA := fun _ k f hs => match f.2.2 with
  | .int y :: .int x :: st => bif b x y then k (t, f.2.1, st) hs else k (f.1 + 3, f.2.1, st) hs
  | _ => none
def ev_look : List (Nat × Value) → Nat → Option Value
  | [], _ => none
  | q :: r, i => bif Nat.beq q.1 i then some q.2 else ev_look r i
def a_iload (n i : Nat) : EA := fun _ k f hs => match ev_look f.2.1 i with
  | some (.int x) => k (f.1 + n, f.2.1, .int x :: f.2.2) hs
  | _ => none
def a_lload (n i : Nat) : EA := fun _ k f hs => match ev_look f.2.1 i with
  | some (.long x) => k (f.1 + n, f.2.1, .long x :: f.2.2) hs
  | _ => none
def a_dload (n i : Nat) : EA := fun _ k f hs => match ev_look f.2.1 i with
  | some (.double x) => k (f.1 + n, f.2.1, .double x :: f.2.2) hs
  | _ => none
def a_aload (n i : Nat) : EA := fun _ k f hs => match ev_look f.2.1 i with
  | some (.ref x) => k (f.1 + n, f.2.1, .ref x :: f.2.2) hs
  | some (.float x) => k (f.1 + n, f.2.1, .float x :: f.2.2) hs
  | _ => none
def ev_st1 (lo : List (Nat × Value)) (i : Nat) (v : Value) : List (Nat × Value) := (i, v) :: lo.filter (fun q => !(q.1 == i) && !(q.1 + 1 == i && q.2.category == 2))
def ev_st2 (lo : List (Nat × Value)) (i : Nat) (v : Value) : List (Nat × Value) := (i, v) :: lo.filter (fun q => !(q.1 == i) && (!(q.1 == i + 1) && !(q.1 + 1 == i && q.2.category == 2)))
def a_istore (nL n i : Nat) : EA := fun _ k f hs => match f.2.2 with
  | .int x :: st => if i < nL then k (f.1 + n, ev_st1 f.2.1 i (.int x), st) hs else none
  | _ => none
def a_astore (nL n i : Nat) : EA := fun _ k f hs => match f.2.2 with
  | .ref x :: st => if i < nL then k (f.1 + n, ev_st1 f.2.1 i (.ref x), st) hs else none
  | .float x :: st => if i < nL then k (f.1 + n, ev_st1 f.2.1 i (.float x), st) hs else none
  | _ => none
def a_lstore (nL n i : Nat) : EA := fun _ k f hs => match f.2.2 with
  | .long x :: st => if i + 1 < nL then k (f.1 + n, ev_st2 f.2.1 i (.long x), st) hs else none
  | _ => none
def a_dstore (nL n i : Nat) : EA := fun _ k f hs => match f.2.2 with
  | .double x :: st => if i + 1 < nL then k (f.1 + n, ev_st2 f.2.1 i (.double x), st) hs else none
  | _ => none
def a_iinc (nL i : Nat) (d : Int32) : EA := fun _ k f hs => match ev_look f.2.1 i with
  | some (.int x) => if i < nL then k (f.1 + 3, ev_st1 f.2.1 i (.int (x + d)), f.2.2) hs else none
  | _ => none
def a_dup : EA := fun _ k f hs => match f.2.2 with
  | v :: st => if v.category = 1 then k (f.1 + 1, f.2.1, v :: v :: st) hs else none
  | _ => none
def a_pop : EA := fun _ k f hs => match f.2.2 with
  | v :: st => if v.category = 1 then k (f.1 + 1, f.2.1, st) hs else none
  | _ => none
def a_dupx1 : EA := fun _ k f hs => match f.2.2 with
  | v :: u :: st => if v.category = 1 ∧ u.category = 1 then k (f.1 + 1, f.2.1, v :: u :: v :: st) hs else none
  | _ => none
def a_dupx2 : EA := fun _ k f hs => match f.2.2 with
  | v :: u :: t :: st => if v.category = 1 ∧ u.category = 1 ∧ t.category = 1 then k (f.1 + 1, f.2.1, v :: u :: t :: v :: st) hs else none
  | _ => none
def a_dup2 : EA := fun _ k f hs => match f.2.2 with
  | v :: u :: st => if v.category = 1 ∧ u.category = 1 then k (f.1 + 1, f.2.1, v :: u :: v :: u :: st) hs else none
  | _ => none
def a_tsw (lo : Int) (ts : List Nat) (t : Nat) : EA := fun _ k f hs => match f.2.2 with
  | .int x :: st => if x.toInt < lo then k (t, f.2.1, st) hs else match ts[(x.toInt - lo).toNat]? with
    | some t1 => k (t1, f.2.1, st) hs
    | none => k (t, f.2.1, st) hs
  | _ => none
def a_iret : EA := fun _ _ f hs => match f.2.2 with
  | [.int x] => some (.inl (some (.int x)), hs)
  | _ => none
def a_lret : EA := fun _ _ f hs => match f.2.2 with
  | [.long x] => some (.inl (some (.long x)), hs)
  | _ => none
def a_dret : EA := fun _ _ f hs => match f.2.2 with
  | [.double x] => some (.inl (some (.double x)), hs)
  | _ => none
def a_aret : EA := fun _ _ f hs => match f.2.2 with
  | [.ref x] => some (.inl (some (.ref x)), hs)
  | _ => none
def a_vret : EA := fun _ _ f hs => match f.2.2 with
  | [] => some (.inl none, hs)
  | _ => none
/-! the heap's -/
def a_getf (ci kf : Nat) : EA := fun _ k f hs => match f.2.2 with
  | .ref a :: st => match hs.1[a]? with
    | some (.inr c, fs) => bif Nat.beq c ci then (match fs[kf]? with
      | some v => k (f.1 + 3, f.2.1, v :: st) hs
      | none => none) else none
    | _ => none
  | _ => none
def ev_fit (ty : Nat) (v : Value) : Bool := match v with
  | .int x => bif Nat.beq ty 0 then true else bif Nat.beq ty 1 then decide (x = 0) || decide (x = 1) else false
  | .ref _ => Nat.beq ty 9
  | .float _ => Nat.beq ty 9
  | .null => Nat.beq ty 9
  | .long _ => Nat.beq ty 2
  | _ => false
def a_putf (ty ci kf : Nat) : EA := fun _ k f hs => match f.2.2 with
  | v :: .ref a :: st => match hs.1[a]? with
    | some (.inr c, fs) => bif Nat.beq c ci && (ev_fit ty v && decide (kf < fs.length)) then k (f.1 + 3, f.2.1, st) (hs.1.set a (.inr c, fs.set kf v), hs.2) else none
    | _ => none
  | _ => none
def ev_at (vs : List Value) (i : Int32) : Option Value := if i < 0 then none else vs[i.toNatClampNeg]?
def a_ild (t : Nat) : EA := fun _ k f hs => match f.2.2 with
  | .int i :: .ref a :: st => match hs.1[a]? with
    | some (.inl t', vs) => bif Nat.beq t' t then (match ev_at vs i with
      | some (.int x) => k (f.1 + 1, f.2.1, .int x :: st) hs
      | _ => none) else none
    | _ => none
  | _ => none
def a_lld : EA := fun _ k f hs => match f.2.2 with
  | .int i :: .ref a :: st => match hs.1[a]? with
    | some (.inl t', vs) => bif Nat.beq t' 2 then (match ev_at vs i with
      | some (.long x) => k (f.1 + 1, f.2.1, .long x :: st) hs
      | _ => none) else none
    | _ => none
  | _ => none
def a_ist (t : Nat) : EA := fun _ k f hs => match f.2.2 with
  | .int x :: .int i :: .ref a :: st => match hs.1[a]? with
    | some (.inl t', vs) => bif Nat.beq t' t && ev_fit t (.int x) then (match ev_at vs i with
      | some _ => k (f.1 + 1, f.2.1, st) (hs.1.set a (.inl t', vs.set i.toNatClampNeg (.int x)), hs.2)
      | _ => none) else none
    | _ => none
  | _ => none
def a_lst : EA := fun _ k f hs => match f.2.2 with
  | .long x :: .int i :: .ref a :: st => match hs.1[a]? with
    | some (.inl t', vs) => bif Nat.beq t' 2 then (match ev_at vs i with
      | some _ => k (f.1 + 1, f.2.1, st) (hs.1.set a (.inl t', vs.set i.toNatClampNeg (.long x)), hs.2)
      | _ => none) else none
    | _ => none
  | _ => none
def a_alen : EA := fun _ k f hs => match f.2.2 with
  | .ref a :: st => match hs.1[a]? with
    | some (.inl t, vs) => bif Nat.ble t 5 then k (f.1 + 1, f.2.1, .int (Int32.ofNat vs.length) :: st) hs else none
    | _ => none
  | _ => none
def a_new (ci n : Nat) (fs : List Value) : EA := fun _ k f hs => k (f.1 + 3, f.2.1, .ref hs.1.length :: f.2.2) (hs.1 ++ [(.inr ci, fs)], hs.2.1 + 1, hs.2.2 + n)
def ev_dv (t : Nat) : Value := if t = 2 then .long 0 else .int 0
def a_newa (t : Nat) : EA := fun _ k f hs => match f.2.2 with
  | .int n :: st => if n < 0 then none else bif Nat.ble (n.toNatClampNeg * 8) 536870912 then
      k (f.1 + 2, f.2.1, .ref hs.1.length :: st) (hs.1 ++ [(.inl t, List.replicate n.toNatClampNeg (ev_dv t))], hs.2.1 + 1, hs.2.2 + n.toNatClampNeg) else none
  | _ => none
def a_ald : EA := fun _ k f hs => match f.2.2 with
  | .int i :: .ref a :: st => match hs.1[a]? with
    | some (.inl t', vs) => bif Nat.ble 3 t' && Nat.ble t' 5 then (match ev_at vs i with
      | some (.ref x) => k (f.1 + 1, f.2.1, .ref x :: st) hs
      | _ => none) else none
    | _ => none
  | _ => none
def a_ast : EA := fun _ k f hs => match f.2.2 with
  | .ref x :: .int i :: .ref a :: st => match hs.1[a]?, hs.1[x]? with
    | some (.inl t', vs), some (.inl tv, _) => bif ev_isc t' tv then (match ev_at vs i with
      | some _ => k (f.1 + 1, f.2.1, st) (hs.1.set a (.inl t', vs.set i.toNatClampNeg (.ref x)), hs.2)
      | _ => none) else none
    | _, _ => none
  | _ => none
def a_newq (t : Nat) : EA := fun _ k f hs => match f.2.2 with
  | .int n :: st => if n < 0 then none else bif Nat.ble (n.toNatClampNeg * 8) 536870912 then
      k (f.1 + 3, f.2.1, .ref hs.1.length :: st) (hs.1 ++ [(.inl t, List.replicate n.toNatClampNeg .null)], hs.2.1 + 1, hs.2.2 + n.toNatClampNeg) else none
  | _ => none
def ev_el (h : List EC) (t : Nat) (v : Value) : Bool := match v with
  | .null => true
  | .ref x => (match h[x]? with
    | some (.inl tv, _) => ev_isc t tv
    | _ => false)
  | _ => false
def a_cpq : EA := fun _ k f hs => match f.2.2 with
  | .int n :: .int dp :: .ref b :: .int sp :: .ref a :: st => match hs.1[a]?, hs.1[b]? with
    | some (.inl t0, v0), some (.inl t1, v1) =>
      bif (Nat.beq t0 t1 && (Nat.ble 3 t0 && Nat.ble t0 5)) && ((decide (sp = 0) && decide (dp = 0)) && (decide (0 ≤ n) && (Nat.ble n.toNatClampNeg v0.length && (Nat.ble n.toNatClampNeg v1.length && (((v0.take n.toNatClampNeg).all (ev_el hs.1 t0)) && Nat.ble ((st.map fun v => v.category).sum) 8)))))
      then k (f.1 + 3, f.2.1, st) (hs.1.set b (.inl t1, v0.take n.toNatClampNeg ++ v1.drop n.toNatClampNeg), hs.2) else none
    | _, _ => none
  | _ => none
def a_sld (sc : Nat × (Nat → Int32)) : EA := fun _ k f hs => match f.2.2 with
  | .int i :: .float z :: st => bif Nat.beq z.toNat 0 && (!decide (i < 0) && !Nat.ble sc.1 i.toNatClampNeg) then k (f.1 + 1, f.2.1, .int (sc.2 i.toNatClampNeg) :: st) hs else none
  | _ => none
def a_slen (sc : Nat × (Nat → Int32)) : EA := fun _ k f hs => match f.2.2 with
  | .float z :: st => bif Nat.beq z.toNat 0 then k (f.1 + 1, f.2.1, .int (Int32.ofNat sc.1) :: st) hs else none
  | _ => none
def a_objI : EA := fun _ k f hs => match f.2.2 with
  | .ref _ :: st => bif Nat.ble (st.map fun v => v.category).sum 8 then k (f.1 + 3, f.2.1, st) hs else none
  | _ => none


theorem ev_rv_cat (ox : Nat → Nat) (al : List Nat) (v : Value) : (ev_rv ox al v).category = v.category := by cases v <;> rfl
theorem ev_look_mem : ∀ (lo : List (Nat × Value)) (i : Nat) (v : Value), ev_look lo i = some v → (i, v) ∈ lo
  | [], _, _, h => by cases h
  | q :: r, i, v, h => by
    unfold ev_look at h
    cases hq : Nat.beq q.1 i with
    | true =>
      rw [hq] at h
      have h1 : q.2 = v := Option.some.inj h
      have h2 : q.1 = i := Nat.eq_of_beq_eq_true hq
      rw [← h1, ← h2]
      exact List.mem_cons_self
    | false =>
      rw [hq] at h
      exact List.mem_cons_of_mem _ (ev_look_mem r i v h)
theorem ev_local {ox : Nat → Nat} {al : List Nat} {ls : Array Slot} {nL : Nat} {lo : List (Nat × Value)} (hl : lv_has ls nL (lo.map (fun q => (q.1, ev_rv ox al q.2)))) {i : Nat} {v : Value} (h : ev_look lo i = some v) : ls[i]? = some (.val (ev_rv ox al v)) :=
  hl.2.2 (i, ev_rv ox al v) (List.mem_map.mpr ⟨(i, v), ev_look_mem lo i v h, rfl⟩)
theorem ev_filt (ox : Nat → Nat) (al : List Nat) (i : Nat) (lo : List (Nat × Value)) : (lo.map (fun q => (q.1, ev_rv ox al q.2))).filter (fun q => !(q.1 == i) && !(q.1 + 1 == i && q.2.category == 2)) = (lo.filter (fun q => !(q.1 == i) && !(q.1 + 1 == i && q.2.category == 2))).map (fun q => (q.1, ev_rv ox al q.2)) := by
  rw [List.filter_map]
  congr 1
  apply List.filter_congr
  intro q _
  simp only [Function.comp_apply, ev_rv_cat]
theorem ev_filt2 (ox : Nat → Nat) (al : List Nat) (i : Nat) (lo : List (Nat × Value)) : (lo.map (fun q => (q.1, ev_rv ox al q.2))).filter (fun q => !(q.1 == i) && (!(q.1 == i + 1) && !(q.1 + 1 == i && q.2.category == 2))) = (lo.filter (fun q => !(q.1 == i) && (!(q.1 == i + 1) && !(q.1 + 1 == i && q.2.category == 2)))).map (fun q => (q.1, ev_rv ox al q.2)) := by
  rw [List.filter_map]
  congr 1
  apply List.filter_congr
  intro q _
  simp only [Function.comp_apply, ev_rv_cat]
theorem ev_st1_eq (ox : Nat → Nat) (al : List Nat) (i : Nat) (lo : List (Nat × Value)) (v : Value) : (i, ev_rv ox al v) :: (lo.map (fun q => (q.1, ev_rv ox al q.2))).filter (fun q => !(q.1 == i) && !(q.1 + 1 == i && q.2.category == 2)) = (ev_st1 lo i v).map (fun q => (q.1, ev_rv ox al q.2)) := by
  rw [ev_filt]; rfl
theorem ev_st2_eq (ox : Nat → Nat) (al : List Nat) (i : Nat) (lo : List (Nat × Value)) (v : Value) : (i, ev_rv ox al v) :: (lo.map (fun q => (q.1, ev_rv ox al q.2))).filter (fun q => !(q.1 == i) && (!(q.1 == i + 1) && !(q.1 + 1 == i && q.2.category == 2))) = (ev_st2 lo i v).map (fun q => (q.1, ev_rv ox al q.2)) := by
  rw [ev_filt2]; rfl
theorem ev_st1_ok {n : Nat} {lo : List (Nat × Value)} {i : Nat} {v : Value} (h : ∀ q ∈ lo, ev_ok n q.2) (hv : ev_ok n v) : ∀ q ∈ ev_st1 lo i v, ev_ok n q.2 := ev_allc (P := fun q : Nat × Value => ev_ok n q.2) hv (fun q hq => h q (List.mem_filter.mp hq).1)
theorem ev_st2_ok {n : Nat} {lo : List (Nat × Value)} {i : Nat} {v : Value} (h : ∀ q ∈ lo, ev_ok n q.2) (hv : ev_ok n v) : ∀ q ∈ ev_st2 lo i v, ev_ok n q.2 := ev_allc (P := fun q : Nat × Value => ev_ok n q.2) hv (fun q hq => h q (List.mem_filter.mp hq).1)
theorem ev_look_ok {n : Nat} {lo : List (Nat × Value)} {i : Nat} {v : Value} (h : ∀ q ∈ lo, ev_ok n q.2) (hv : ev_look lo i = some v) : ev_ok n v := h (i, v) (ev_look_mem lo i v hv)
theorem ev_ok_mono {n k : Nat} (h : n ≤ k) {v : Value} (hv : ev_ok n v) : ev_ok k v := by
  cases v <;> first | trivial | exact Nat.lt_of_lt_of_le hv h
theorem ev_rv_app (ox : Nat → Nat) (al be : List Nat) {v : Value} (h : ev_ok al.length v) : ev_rv ox (al ++ be) v = ev_rv ox al v := by
  cases v with
  | ref a =>
    show Value.ref _ = Value.ref _
    rw [List.getD_eq_getElem?_getD, List.getD_eq_getElem?_getD, List.getElem?_append_left h]
  | _ => rfl
theorem ev_w_len {cs : Nat → ClassId} {ox : Nat → Nat} {al : List Nat} {h : List EC} (hn : al.length = h.length) : (ev_w cs ox al h).length = h.length := by
  unfold ev_w
  rw [List.length_map, List.length_zip, hn, Nat.min_self]
theorem ev_w_get {cs : Nat → ClassId} {ox : Nat → Nat} {al : List Nat} {h : List EC} (hn : al.length = h.length) {a : Nat} {e : EC} (he : h[a]? = some e) : (ev_w cs ox al h)[a]? = some (al.getD a 0, ev_e cs ox al e) := by
  have ha : a < al.length := by rw [hn]; exact (List.getElem?_eq_some_iff.mp he).1
  unfold ev_w
  rw [List.getElem?_map, (List.getElem?_zip_eq_some (z := (al[a], e))).mpr ⟨List.getElem?_eq_getElem ha, he⟩, List.getD_eq_getElem?_getD, List.getElem?_eq_getElem ha]
  rfl
theorem ev_w_ge {cs : Nat → ClassId} {ox : Nat → Nat} {al : List Nat} {h : List EC} {a : Nat} {q : Nat × va_E} (hq : (ev_w cs ox al h)[a]? = some q) : ∃ e, h[a]? = some e ∧ al[a]? = some q.1 ∧ q.2 = ev_e cs ox al e := by
  unfold ev_w at hq
  rw [List.getElem?_map] at hq
  cases hz : (al.zip h)[a]? with
  | none => rw [hz] at hq; cases hq
  | some z =>
    rw [hz] at hq
    obtain ⟨z1, z2⟩ := List.getElem?_zip_eq_some.mp hz
    cases hq
    exact ⟨z.2, z2, z1, rfl⟩
theorem ev_w_set {cs : Nat → ClassId} {ox : Nat → Nat} {al : List Nat} {h : List EC} (hn : al.length = h.length) (a : Nat) (e' : EC) : (ev_w cs ox al h).set a (al.getD a 0, ev_e cs ox al e') = ev_w cs ox al (h.set a e') := by
  apply List.ext_getElem?
  intro j
  rw [List.getElem?_set]
  by_cases hj : a = j
  · subst hj
    rw [if_pos rfl, ev_w_len hn]
    by_cases hl : a < h.length
    · rw [if_pos hl]
      exact (ev_w_get (cs := cs) (ox := ox) (al := al) (h := h.set a e') (by rw [List.length_set]; exact hn) (by rw [List.getElem?_set_self hl])).symm
    · rw [if_neg hl]
      refine (List.getElem?_eq_none ?_).symm
      rw [ev_w_len (by rw [List.length_set]; exact hn), List.length_set]
      omega
  · rw [if_neg hj]
    unfold ev_w
    rw [List.getElem?_map, List.getElem?_map]
    congr 1
    rw [List.zip, List.getElem?_zipWith, List.getElem?_zipWith, List.getElem?_set_ne hj]
theorem ev_e_app {cs : Nat → ClassId} {ox : Nat → Nat} {al : List Nat} (be : List Nat) {e : EC} (h : ∀ v ∈ e.2, ev_ok al.length v) : ev_e cs ox (al ++ be) e = ev_e cs ox al e := by
  unfold ev_e
  split
  · next t _ =>
    have hq : ∀ j, ev_q (al ++ be) (e.2.getD j .null) = ev_q al (e.2.getD j .null) := by
      intro j
      rw [List.getD_eq_getElem?_getD]
      cases hj : e.2[j]? with
      | none => rfl
      | some v =>
        have hv := h v (List.mem_of_getElem? hj)
        cases v with
        | ref a =>
          show some _ = some _
          rw [List.getD_eq_getElem?_getD, List.getD_eq_getElem?_getD, List.getElem?_append_left hv]
        | _ => rfl
    unfold ev_arr
    simp only [hq]
  · next c _ =>
    have : e.2.map (ev_rv ox (al ++ be)) = e.2.map (ev_rv ox al) := List.map_congr_left (fun v hv => ev_rv_app ox al be (h v hv))
    rw [this]
theorem ev_w_push {cs : Nat → ClassId} {ox : Nat → Nat} {al : List Nat} {h : List EC} (hn : al.length = h.length) (hw : ∀ e ∈ h, ∀ v ∈ e.2, ev_ok h.length v) (q : Nat) {e : EC} (he : ∀ v ∈ e.2, ev_ok al.length v) : ev_w cs ox al h ++ [(q, ev_e cs ox al e)] = ev_w cs ox (al ++ [q]) (h ++ [e]) := by
  unfold ev_w
  rw [List.zip_append hn, List.map_append]
  congr 1
  · apply List.map_congr_left
    intro z hz
    have h1 : z.2 ∈ h := (List.of_mem_zip hz).2
    show (z.1, _) = (z.1, _)
    rw [ev_e_app [q] (fun v hv => by rw [hn]; exact hw _ h1 v hv)]
  · show [(q, _)] = [(q, _)]
    rw [ev_e_app [q] he]
theorem ev_wf_set {h : List EC} (hw : ∀ e ∈ h, ∀ v ∈ e.2, ev_ok h.length v) {a : Nat} {e' : EC} (he : ∀ v ∈ e'.2, ev_ok h.length v) : ∀ e ∈ h.set a e', ∀ v ∈ e.2, ev_ok (h.set a e').length v := by
  intro e h1 v hv
  rw [List.length_set]
  rcases List.mem_or_eq_of_mem_set h1 with h1 | h1
  · exact hw e h1 v hv
  · subst h1; exact he v hv
theorem ev_mem_set {P : Value → Prop} {vs : List Value} {i : Nat} {x : Value} (h : ∀ v ∈ vs, P v) (hx : P x) : ∀ v ∈ vs.set i x, P v := by
  intro v hv
  rcases List.mem_or_eq_of_mem_set hv with h1 | h1
  · exact h v h1
  · subst h1; exact hx
theorem ev_at_spec {vs : List Value} {i : Int32} {v : Value} (h : ev_at vs i = some v) : vp_in i vs.length ∧ vs[i.toNatClampNeg]? = some v := by
  unfold ev_at at h
  by_cases hi : i < 0
  · rw [if_pos hi] at h; cases h
  · rw [if_neg hi] at h
    have hl := (List.getElem?_eq_some_iff.mp h).1
    exact ⟨fun q => by rcases q with q | q; exact hi q; omega, h⟩
theorem ev_upd (vs : List Value) (n : Nat) (x : Int32) (hn : n < vs.length) : upd (fun j => ev_i (vs.getD j (.int 0))) n x = fun j => ev_i ((vs.set n (.int x)).getD j (.int 0)) := by
  funext j
  show (if j = n then x else ev_i (vs.getD j (.int 0))) = _
  rw [List.getD_eq_getElem?_getD, List.getD_eq_getElem?_getD, List.getElem?_set]
  by_cases hj : n = j
  · subst hj
    simp [hn, ev_i]
  · rw [if_neg hj, if_neg (fun h => hj h.symm)]
theorem ev_updL (vs : List Value) (n : Nat) (x : Int64) (hn : n < vs.length) : vp_updL (fun j => ev_l (vs.getD j (.long 0))) n x = fun j => ev_l ((vs.set n (.long x)).getD j (.long 0)) := by
  funext j
  show (if j = n then x else ev_l (vs.getD j (.long 0))) = _
  rw [List.getD_eq_getElem?_getD, List.getD_eq_getElem?_getD, List.getElem?_set]
  by_cases hj : n = j
  · subst hj
    simp [hn, ev_l]
  · rw [if_neg hj, if_neg (fun h => hj h.symm)]

def ev_tc : FieldType → Nat
  | .int => 0
  | .boolean => 1
  | .long => 2
  | .object _ => 9
  | .array _ => 9
  | _ => 5
theorem ev_fit_spec (ox : Nat → Nat) (al : List Nat) (ty : FieldType) {v : Value} (h : ev_fit (ev_tc ty) v = true) : narrow ty (ev_rv ox al v) = ev_rv ox al v ∧ fits ty (ev_rv ox al v) = true := by
  cases ty with
  | boolean =>
    cases v with
    | int x =>
      have h2 : (decide (x = 0) || decide (x = 1)) = true := h
      rcases Bool.or_eq_true_iff.mp h2 with q | q
      · cases of_decide_eq_true q; exact ⟨rfl, rfl⟩
      · cases of_decide_eq_true q; exact ⟨rfl, rfl⟩
    | _ => cases h
  | _ => cases v <;> first | exact ⟨rfl, rfl⟩ | cases h
theorem ev_nar {x : Int32} (h : ev_fit 1 (.int x) = true) : vp_nar .boolean x = x := by
  have h2 : (decide (x = 0) || decide (x = 1)) = true := h
  rcases Bool.or_eq_true_iff.mp h2 with q | q
  · cases of_decide_eq_true q; rfl
  · cases of_decide_eq_true q; rfl
theorem ev_wf_push {h : List EC} (hw : ∀ e ∈ h, ∀ v ∈ e.2, ev_ok h.length v) {e' : EC} (he : ∀ v ∈ e'.2, ev_ok h.length v) : ∀ e ∈ h ++ [e'], ∀ v ∈ e.2, ev_ok (h ++ [e']).length v := by
  intro e h1 v hv
  have hm : h.length ≤ (h ++ [e']).length := by rw [List.length_append]; exact Nat.le_add_right _ _
  rcases List.mem_append.mp h1 with h1 | h1
  · exact ev_ok_mono hm (hw e h1 v hv)
  · rw [List.mem_singleton.mp h1] at hv
    exact ev_ok_mono hm (he v hv)
theorem ev_loc_app {ox : Nat → Nat} {al : List Nat} {n : Nat} (hn : al.length = n) {lo : List (Nat × Value)} (h : ∀ q ∈ lo, ev_ok n q.2) {be : List Nat} : lo.map (fun q : Nat × Value => (q.1, ev_rv ox (al ++ be) q.2)) = lo.map (fun q : Nat × Value => (q.1, ev_rv ox al q.2)) :=
  List.map_congr_left (fun q hq => by rw [ev_rv_app ox al be (by rw [hn]; exact h q hq)])
theorem ev_stk_app {ox : Nat → Nat} {al : List Nat} {n : Nat} (hn : al.length = n) {st : List Value} (h : ∀ v ∈ st, ev_ok n v) {be : List Nat} : st.map (ev_rv ox (al ++ be)) = st.map (ev_rv ox al) :=
  List.map_congr_left (fun v hv => ev_rv_app ox al be (by rw [hn]; exact h v hv))
theorem ev_rv_new (ox : Nat → Nat) {al : List Nat} {n : Nat} (hn : al.length = n) (q : Nat) : ev_rv ox (al ++ [q]) (.ref n) = .ref q := by
  show Value.ref _ = _
  rw [List.getD_eq_getElem?_getD, ← hn, List.getElem?_append_right (Nat.le_refl _), Nat.sub_self]
  rfl
theorem ev_arr_new (al : List Nat) (t n : Nat) (cA : ClassId) (h3 : Nat.ble 3 t = false) : vp_cell cA (ev_arr al t (List.replicate n (ev_dv t))) = arrV cA n (fun _ => if t = 2 then .long 0 else .int 0) := by
  unfold ev_arr ev_dv
  by_cases ht : t = 2
  · subst ht
    simp only [if_pos rfl, List.length_replicate]
    show arrV cA n (fun j => .long (ev_l ((List.replicate n (Value.long 0)).getD j (.long 0)))) = _
    congr 1
    funext j
    rw [List.getD_eq_getElem?_getD, List.getElem?_replicate]
    split <;> rfl
  · have hb : Nat.beq t 2 = false := by cases hq : Nat.beq t 2 with | false => rfl | true => exact absurd (Nat.eq_of_beq_eq_true hq) ht
    simp only [if_neg ht, List.length_replicate, hb, h3, cond_false]
    show arrV cA n (fun j => .int (ev_i ((List.replicate n (Value.int 0)).getD j (.int 0)))) = _
    congr 1
    funext j
    rw [List.getD_eq_getElem?_getD, List.getElem?_replicate]
    split <;> rfl
theorem ev_arr_newq (al : List Nat) (t n : Nat) (cA : ClassId) (h3 : 3 ≤ t) : vp_cell cA (ev_arr al t (List.replicate n .null)) = arrV cA n (fun _ => .null) := by
  have hb : Nat.beq t 2 = false := by cases hq : Nat.beq t 2 with | false => rfl | true => have := Nat.eq_of_beq_eq_true hq; omega
  unfold ev_arr
  simp only [hb, Nat.ble_eq_true_of_le h3, cond_false, cond_true, List.length_replicate]
  show arrV cA n (fun j => va_rf (ev_q al ((List.replicate n Value.null).getD j .null))) = _
  congr 1
  funext j
  rw [List.getD_eq_getElem?_getD, List.getElem?_replicate]
  split <;> rfl
theorem ev_isc_spec {t c : Nat} (h : ev_isc t c = true) : (t, c) ∈ ev_comp ∧ 3 ≤ t ∧ t ≤ 5 ∧ c ≤ 5 := by
  unfold ev_isc at h
  obtain ⟨q, h1, h2⟩ := List.any_eq_true.mp h
  obtain ⟨h3, h4⟩ := Bool.and_eq_true_iff.mp h2
  cases Nat.eq_of_beq_eq_true h3
  cases Nat.eq_of_beq_eq_true h4
  refine ⟨h1, ?_⟩
  simp only [ev_comp, List.mem_cons, List.not_mem_nil, or_false] at h1
  rcases h1 with rfl | rfl | rfl <;> decide
theorem ev_tys_at (cs : Nat → ClassId) {t : Nat} (h : t ≤ 5) : (ev_tys cs)[t]? = some (cs t, ev_ty t) := by
  rcases (show t = 0 ∨ t = 1 ∨ t = 2 ∨ t = 3 ∨ t = 4 ∨ t = 5 by omega) with rfl | rfl | rfl | rfl | rfl | rfl <;> rfl
theorem ev_ty_ref {t : Nat} (h : 3 ≤ t) (h5 : t ≤ 5) : (ev_ty t).isReference = true := by
  rcases (show t = 3 ∨ t = 4 ∨ t = 5 by omega) with rfl | rfl | rfl <;> rfl
theorem ev_arr_q (al : List Nat) {t : Nat} (h : 3 ≤ t) (vs : List Value) : ev_arr al t vs = (vs.length, .inr (.inr (.inr (.inr (fun j => ev_q al (vs.getD j .null)))))) := by
  have hb : Nat.beq t 2 = false := by cases hq : Nat.beq t 2 with | false => rfl | true => have := Nat.eq_of_beq_eq_true hq; omega
  unfold ev_arr
  simp only [hb, Nat.ble_eq_true_of_le h, cond_false, cond_true]
theorem ev_assign (vm : Vm) (c : ClassId) : vm.assignable c c = true := by
  unfold Vm.assignable Vm.assignableAux
  simp
theorem ev_updq (al : List Nat) (vs : List Value) (n x : Nat) (hn : n < vs.length) : va_up (fun j => ev_q al (vs.getD j .null)) n (some (al.getD x 0)) = fun j => ev_q al ((vs.set n (.ref x)).getD j .null) := by
  funext j
  show (if j = n then some (al.getD x 0) else ev_q al (vs.getD j .null)) = _
  rw [List.getD_eq_getElem?_getD (l := vs), List.getD_eq_getElem?_getD (l := vs.set n (.ref x)), List.getElem?_set]
  by_cases hj : n = j
  · subst hj
    simp [hn, ev_q]
  · rw [if_neg hj, if_neg (fun h => hj h.symm)]
theorem ev_cpyq (al : List Nat) (v0 v1 : List Value) (n : Nat) (h0 : n ≤ v0.length) : va_cpy (fun j => ev_q al (v0.getD j .null)) (fun j => ev_q al (v1.getD j .null)) 0 0 n = fun j => ev_q al ((v0.take n ++ v1.drop n).getD j .null) := by
  funext j
  show (if 0 ≤ j ∧ j < 0 + n then ev_q al (v0.getD (0 + (j - 0)) .null) else ev_q al (v1.getD j .null)) = _
  rw [List.getD_eq_getElem?_getD, List.getD_eq_getElem?_getD, List.getD_eq_getElem?_getD]
  by_cases hj : j < n
  · rw [if_pos ⟨Nat.zero_le _, by omega⟩, List.getElem?_append_left (by rw [List.length_take]; omega), List.getElem?_take_of_lt hj]
    simp
  · rw [if_neg (fun h => hj (by omega)), List.getElem?_append_right (by rw [List.length_take]; omega), List.length_take, Nat.min_eq_left h0, List.getElem?_drop, show n + (j - n) = j by omega]
theorem ev_cats (ox : Nat → Nat) (al : List Nat) (st : List Value) : ((st.map (ev_rv ox al)).map fun v => v.category).sum = (st.map fun v => v.category).sum := by
  rw [List.map_map]
  congr 1
  exact List.map_congr_left (fun v _ => ev_rv_cat ox al v)

section EVCR
variable {p : Program} {l : Launch} {e : Env} {R : Room} {s : State} {m : MethodId} {args : Array Value} {below : List Frame} {meth : Method} {c : Code} {H : Heap} {locs : List Loc} {cells slots : Nat} {Q : State → Prop}
variable {pc : Nat} {ls : Array Slot} {rest : List Value} {D : va_G} {cl : List vw_C} {A : Nat → Prop} {a : Nat} {ws : va_W} {H0 : Heap}
/-- System.arraycopy between rows of references of one class, from place 0 to place 0 -/
theorem ev_copyR {cc : ByteArray} (hexec : p.tables.exec = Jvm.exec) (hb : c.code = cc) (hml : c.maxLocals = ls.size) {own : String} {index : Nat} (hown : s.vm.findClass own = some m.cls) (hlink : (Cond.methodLink own index arraycopyName).before args s = true) (hnat : (Cond.native arraycopyName).before args s = true) (hstat : (Cond.static arraycopyName).before args s = true) (hini : (Cond.initialized "java/lang/System").before args s = true)
    (hP : va_P D cl ws H) (hD : va_D A ws) (hS : va_S A H0 H locs) (q0 q1 : Nat) {a0 : Nat} {cA : ClassId} {n0 n1 : Nat} {f g : Nat → Option Nat} {ty : FieldType} (href : ty.isReference = true) (ha0 : ws[q0]? = some (a0, .inl (cA, n0, .inr (.inr (.inr (.inr f)))))) (ha1 : ws[q1]? = some (a, .inl (cA, n1, .inr (.inr (.inr (.inr g)))))) (hAr : ArrOfT s cA ty)
    {n : Int32} (h3 : ¬ n < 0) (h4 : n.toNatClampNeg ≤ n0) (h5 : n.toNatClampNeg ≤ n1) (hel : ∀ i : Nat, i < n.toNatClampNeg → ∀ y : Nat, f i = some y → ∃ (cellV : Cell) (cV : ClassId) (kA kV : Class), H[y]? = some cellV ∧ cellV.cls = cV ∧ cellV.vm = .none ∧ s.vm.classes[cV]? = some kV ∧ s.vm.classes[cA]? = some kA ∧ kA.kind = .array cV ty)
    (hframes : 1 ≤ R.frames) (hlocals : (rest.map fun v => v.category).sum + (nativeFrameWords "java/lang/System" "arraycopy" 5 + 11) ≤ R.locals) (hdg : decode cc pc = .ok (.invokestatic index, 3))
    (kk : ∀ (H1 : Heap) (locs1 : List Loc), va_P D cl (ws.set q1 (a, .inl (cA, n1, .inr (.inr (.inr (.inr (va_cpy f g 0 0 n.toNatClampNeg))))))) H1 → va_D A (ws.set q1 (a, .inl (cA, n1, .inr (.inr (.inr (.inr (va_cpy f g 0 0 n.toNatClampNeg))))))) → va_S A H0 H1 locs1 → W p l e R s m args below meth c H1 locs1 cells slots Q (F0 m (pc + 3) ls rest)) : W p l e R s m args below meth c H locs cells slots Q (F0 m pc ls (.int n :: .int 0 :: .ref a :: .int 0 :: .ref a0 :: rest)) := by
  have nn : ∀ z : Int32, ¬ z < 0 → z.toInt = (z.toNatClampNeg : Int) := by
    intro z hz
    have hz0 : (0 : Int) ≤ z.toInt := by
      have := Int32.not_lt.mp hz
      simpa using Int32.le_iff_toInt_le.mp this
    show z.toInt = ((z.toInt.toNat : Nat) : Int)
    omega
  have z0 : (0 : Int32).toNatClampNeg = 0 := rfl
  have zi : (0 : Int32).toInt = 0 := rfl
  intro T hT X
  have hc0 : H[a0]? = some (vp_cell cA (n0, .inr (.inr (.inr (.inr f))))) := hP q0 _ ha0
  have hc1 : H[a]? = some (vp_cell cA (n1, .inr (.inr (.inr (.inr g))))) := hP q1 _ ha1
  obtain ⟨-, k0, hk0, cm0, hkk0⟩ := hAr n0 (fun j => va_rf (f j))
  obtain ⟨vm', X', step⟩ := X.arraycopy hexec hown hlink hnat hstat hini (src := a0) (dst := a) (cs := vp_cell cA (n0, .inr (.inr (.inr (.inr f))))) (cd := vp_cell cA (n1, .inr (.inr (.inr (.inr g))))) (srcPos := 0) (destPos := 0) (n := n) (by rw [hT]; exact hc0) (by rw [hT]; exact hc1)
    (fun _ h => by cases h) (fun _ h => by cases h) (fun h => by cases h) (fun h => by cases h) hk0 hk0 hkk0 hkk0 (by simp) (by decide) (by decide) h3
    (by rw [zi, nn n h3]; show ¬ _ > ((arrV cA n0 (fun j => va_rf (f j))).slots.size : Int); rw [arrV_size]; omega)
    (by rw [zi, nn n h3]; show ¬ _ > ((arrV cA n1 (fun j => va_rf (g j))).slots.size : Int); rw [arrV_size]; omega)
    (fun vm₁ hal i hi => by
      have e : (vp_cell cA (n0, .inr (.inr (.inr (.inr f))))).slots.getD ((0 : Int32).toNatClampNeg + i) .null = va_rf (f i) := by
        rw [z0, Nat.zero_add]
        show (arrV cA n0 (fun j => va_rf (f j))).slots.getD _ _ = _
        rw [Array.getD_eq_getD_getElem?, arrV_read _ _ (by omega)]
        rfl
      rw [e]
      cases hy : f i with
      | none => exact ⟨(by cases ty <;> first | rfl | cases href), trivial⟩
      | some y =>
        obtain ⟨cellV, cV, kA, kV, g1, g2, g3, g4, g5, g6⟩ := hel i hi y hy
        cases hk0.symm.trans g5
        cases hkk0.symm.trans g6
        obtain ⟨kC', hkC', -⟩ := hal.2.2 _ _ g4
        refine ⟨(by cases ty <;> first | rfl | cases href), cellV, (show T.heap[y]? = some cellV by rw [hT]; exact g1), (fun q h => by rw [h] at g3; cases g3), ⟨kC', by rw [g2]; exact hkC'⟩, ?_, ?_⟩
        · exact ⟨kC', hkC'⟩
        · show vm₁.assignable _ _ = true
          rw [g2]
          exact ev_assign _ _)
    (g := F0 m pc ls (.int n :: .int 0 :: .ref a :: .int 0 :: .ref a0 :: rest)) rfl (by rw [hml]) (rest := rest) rfl (by rw [hb]; exact hdg) hframes (by show 2 * 0 + _ + _ ≤ _; omega)
  have e1 : copied (vp_cell cA (n0, .inr (.inr (.inr (.inr f))))) (vp_cell cA (n1, .inr (.inr (.inr (.inr g))))) 0 0 n = vp_cell cA (n1, .inr (.inr (.inr (.inr (va_cpy f g 0 0 n.toNatClampNeg))))) := by
    rw [vp_cell_q, vp_cell_q, vp_cell_q]
    exact va_copied (fun z => va_rf z) cA cA f g (by omega)
  rw [e1] at X' step
  have hl : a < H.size := (Array.getElem?_eq_some_iff.mp hc1).1
  have hheap : ((T.setVm vm').setCell a (vp_cell cA (n1, .inr (.inr (.inr (.inr (va_cpy f g 0 0 n.toNatClampNeg))))))).heap = H.setIfInBounds a (vp_cell cA (n1, .inr (.inr (.inr (.inr (va_cpy f g 0 0 n.toNatClampNeg)))))) := by rw [← hT]; rfl
  have oq : ∀ q : Nat, q ≠ a → (H.setIfInBounds a (vp_cell cA (n1, .inr (.inr (.inr (.inr (va_cpy f g 0 0 n.toNatClampNeg)))))))[q]? = H[q]? := fun q hq => by simp [Array.getElem?_setIfInBounds, Ne.symm hq]
  obtain ⟨t, a1, b1⟩ := kk _ _ (hP.set hD ha1 (show (H.setIfInBounds a _)[a]? = some _ by simp [Array.getElem?_setIfInBounds, hl]) oq) (hD.set ha1) ⟨by simp; exact hS.1, fun q g1 g2 => by
      rw [oq q (fun e => g2 (by rw [e]; exact hD.2 q1 _ ha1))]
      exact hS.2.1 q g1 g2, fun q hq => by
      rcases List.mem_append.mp hq with h | h
      · exact hS.2.2 q h
      · obtain ⟨z, -, hz⟩ := List.mem_map.mp h
        rw [← hz]
        exact hD.2 q1 _ ha1⟩ _ hheap X'
  exact ⟨t, step t a1, b1⟩
end EVCR

section EVO
variable {cc : ByteArray} {nL : Nat} {hh : List (Nat × Nat × Nat × Nat)} {own : String} {Ts Tn : List Cond} {Tq : EQ} {cl : List vw_C} {isI : Bool} {CO : Launch → Room → (Nat → ClassId) → va_G → (Nat → Nat) → (Nat → Prop) → ECall → Prop} {pc : Nat}
theorem ok_iadd (d : decode cc pc = .ok (.iadd, 1)) : ev_Ok cc nL hh own Ts Tn Tq cl isI CO pc (a_ii 1 (fun x y => x + y)) := by
  intro p l e R s m args below meth c Q D cs ox A al0 k0 n0 call kont f hs o hs' cx hI hC hR hT hpc h hk
  obtain ⟨pc', lo, st⟩ := f
  cases hpc
  obtain ⟨⟨hx, hb, hml, hown, hts⟩, ⟨hKK, hA, hNw, hZU, hZS, hTq, hNc, hX⟩, hEx, hRc, hRs⟩ := cx
  match st, h with
  | .int y :: .int x :: st, h =>
    intro h1 h2
    obtain ⟨g1, g2, g3⟩ := hk _ _ h h1 h2
    refine ⟨g1, g2, fun al H locs ls w wl wv hl => ?_⟩
    exact lv_iadd hx hb d (g3 al H locs ls w wl (ev_allc trivial (ev_tl (ev_tl wv))) hl)
theorem ok_isub (d : decode cc pc = .ok (.isub, 1)) : ev_Ok cc nL hh own Ts Tn Tq cl isI CO pc (a_ii 1 (fun x y => x - y)) := by
  intro p l e R s m args below meth c Q D cs ox A al0 k0 n0 call kont f hs o hs' cx hI hC hR hT hpc h hk
  obtain ⟨pc', lo, st⟩ := f
  cases hpc
  obtain ⟨⟨hx, hb, hml, hown, hts⟩, ⟨hKK, hA, hNw, hZU, hZS, hTq, hNc, hX⟩, hEx, hRc, hRs⟩ := cx
  match st, h with
  | .int y :: .int x :: st, h =>
    intro h1 h2
    obtain ⟨g1, g2, g3⟩ := hk _ _ h h1 h2
    refine ⟨g1, g2, fun al H locs ls w wl wv hl => ?_⟩
    exact lv_isub hx hb d (g3 al H locs ls w wl (ev_allc trivial (ev_tl (ev_tl wv))) hl)
theorem ok_imul (d : decode cc pc = .ok (.imul, 1)) : ev_Ok cc nL hh own Ts Tn Tq cl isI CO pc (a_ii 1 (fun x y => x * y)) := by
  intro p l e R s m args below meth c Q D cs ox A al0 k0 n0 call kont f hs o hs' cx hI hC hR hT hpc h hk
  obtain ⟨pc', lo, st⟩ := f
  cases hpc
  obtain ⟨⟨hx, hb, hml, hown, hts⟩, ⟨hKK, hA, hNw, hZU, hZS, hTq, hNc, hX⟩, hEx, hRc, hRs⟩ := cx
  match st, h with
  | .int y :: .int x :: st, h =>
    intro h1 h2
    obtain ⟨g1, g2, g3⟩ := hk _ _ h h1 h2
    refine ⟨g1, g2, fun al H locs ls w wl wv hl => ?_⟩
    exact lv_imul hx hb d (g3 al H locs ls w wl (ev_allc trivial (ev_tl (ev_tl wv))) hl)
theorem ok_iand (d : decode cc pc = .ok (.iand, 1)) : ev_Ok cc nL hh own Ts Tn Tq cl isI CO pc (a_ii 1 (fun x y => x &&& y)) := by
  intro p l e R s m args below meth c Q D cs ox A al0 k0 n0 call kont f hs o hs' cx hI hC hR hT hpc h hk
  obtain ⟨pc', lo, st⟩ := f
  cases hpc
  obtain ⟨⟨hx, hb, hml, hown, hts⟩, ⟨hKK, hA, hNw, hZU, hZS, hTq, hNc, hX⟩, hEx, hRc, hRs⟩ := cx
  match st, h with
  | .int y :: .int x :: st, h =>
    intro h1 h2
    obtain ⟨g1, g2, g3⟩ := hk _ _ h h1 h2
    refine ⟨g1, g2, fun al H locs ls w wl wv hl => ?_⟩
    exact lv_iand hx hb d (g3 al H locs ls w wl (ev_allc trivial (ev_tl (ev_tl wv))) hl)
theorem ok_ior (d : decode cc pc = .ok (.ior, 1)) : ev_Ok cc nL hh own Ts Tn Tq cl isI CO pc (a_ii 1 (fun x y => x ||| y)) := by
  intro p l e R s m args below meth c Q D cs ox A al0 k0 n0 call kont f hs o hs' cx hI hC hR hT hpc h hk
  obtain ⟨pc', lo, st⟩ := f
  cases hpc
  obtain ⟨⟨hx, hb, hml, hown, hts⟩, ⟨hKK, hA, hNw, hZU, hZS, hTq, hNc, hX⟩, hEx, hRc, hRs⟩ := cx
  match st, h with
  | .int y :: .int x :: st, h =>
    intro h1 h2
    obtain ⟨g1, g2, g3⟩ := hk _ _ h h1 h2
    refine ⟨g1, g2, fun al H locs ls w wl wv hl => ?_⟩
    exact lv_ior hx hb d (g3 al H locs ls w wl (ev_allc trivial (ev_tl (ev_tl wv))) hl)
theorem ok_ixor (d : decode cc pc = .ok (.ixor, 1)) : ev_Ok cc nL hh own Ts Tn Tq cl isI CO pc (a_ii 1 (fun x y => x ^^^ y)) := by
  intro p l e R s m args below meth c Q D cs ox A al0 k0 n0 call kont f hs o hs' cx hI hC hR hT hpc h hk
  obtain ⟨pc', lo, st⟩ := f
  cases hpc
  obtain ⟨⟨hx, hb, hml, hown, hts⟩, ⟨hKK, hA, hNw, hZU, hZS, hTq, hNc, hX⟩, hEx, hRc, hRs⟩ := cx
  match st, h with
  | .int y :: .int x :: st, h =>
    intro h1 h2
    obtain ⟨g1, g2, g3⟩ := hk _ _ h h1 h2
    refine ⟨g1, g2, fun al H locs ls w wl wv hl => ?_⟩
    exact lv_ixor hx hb d (g3 al H locs ls w wl (ev_allc trivial (ev_tl (ev_tl wv))) hl)
theorem ok_ishl (d : decode cc pc = .ok (.ishl, 1)) : ev_Ok cc nL hh own Ts Tn Tq cl isI CO pc (a_ii 1 (fun x y => x <<< (y &&& 31))) := by
  intro p l e R s m args below meth c Q D cs ox A al0 k0 n0 call kont f hs o hs' cx hI hC hR hT hpc h hk
  obtain ⟨pc', lo, st⟩ := f
  cases hpc
  obtain ⟨⟨hx, hb, hml, hown, hts⟩, ⟨hKK, hA, hNw, hZU, hZS, hTq, hNc, hX⟩, hEx, hRc, hRs⟩ := cx
  match st, h with
  | .int y :: .int x :: st, h =>
    intro h1 h2
    obtain ⟨g1, g2, g3⟩ := hk _ _ h h1 h2
    refine ⟨g1, g2, fun al H locs ls w wl wv hl => ?_⟩
    exact lv_ishl hx hb d (g3 al H locs ls w wl (ev_allc trivial (ev_tl (ev_tl wv))) hl)
theorem ok_ishr (d : decode cc pc = .ok (.ishr, 1)) : ev_Ok cc nL hh own Ts Tn Tq cl isI CO pc (a_ii 1 (fun x y => x >>> (y &&& 31))) := by
  intro p l e R s m args below meth c Q D cs ox A al0 k0 n0 call kont f hs o hs' cx hI hC hR hT hpc h hk
  obtain ⟨pc', lo, st⟩ := f
  cases hpc
  obtain ⟨⟨hx, hb, hml, hown, hts⟩, ⟨hKK, hA, hNw, hZU, hZS, hTq, hNc, hX⟩, hEx, hRc, hRs⟩ := cx
  match st, h with
  | .int y :: .int x :: st, h =>
    intro h1 h2
    obtain ⟨g1, g2, g3⟩ := hk _ _ h h1 h2
    refine ⟨g1, g2, fun al H locs ls w wl wv hl => ?_⟩
    exact lv_ishr hx hb d (g3 al H locs ls w wl (ev_allc trivial (ev_tl (ev_tl wv))) hl)
theorem ok_iushr (d : decode cc pc = .ok (.iushr, 1)) : ev_Ok cc nL hh own Ts Tn Tq cl isI CO pc (a_ii 1 (fun x y => (x.toUInt32 >>> (y.toUInt32 &&& Int32.toUInt32 31)).toInt32)) := by
  intro p l e R s m args below meth c Q D cs ox A al0 k0 n0 call kont f hs o hs' cx hI hC hR hT hpc h hk
  obtain ⟨pc', lo, st⟩ := f
  cases hpc
  obtain ⟨⟨hx, hb, hml, hown, hts⟩, ⟨hKK, hA, hNw, hZU, hZS, hTq, hNc, hX⟩, hEx, hRc, hRs⟩ := cx
  match st, h with
  | .int y :: .int x :: st, h =>
    intro h1 h2
    obtain ⟨g1, g2, g3⟩ := hk _ _ h h1 h2
    refine ⟨g1, g2, fun al H locs ls w wl wv hl => ?_⟩
    exact lv_iushr hx hb d rfl (g3 al H locs ls w wl (ev_allc trivial (ev_tl (ev_tl wv))) hl)
theorem ok_idiv (d : decode cc pc = .ok (.idiv, 1)) : ev_Ok cc nL hh own Ts Tn Tq cl isI CO pc (a_iiN (fun x y => x / y)) := by
  intro p l e R s m args below meth c Q D cs ox A al0 k0 n0 call kont f hs o hs' cx hI hC hR hT hpc h hk
  obtain ⟨pc', lo, st⟩ := f
  cases hpc
  obtain ⟨⟨hx, hb, hml, hown, hts⟩, ⟨hKK, hA, hNw, hZU, hZS, hTq, hNc, hX⟩, hEx, hRc, hRs⟩ := cx
  match st, h with
  | .int y :: .int x :: st, h =>
    by_cases hy : y = 0
    · have h : (if y = 0 then none else kont (pc' + 1, lo, .int (x / y) :: st) hs) = some (o, hs') := h
      rw [if_pos hy] at h; cases h
    · have h : (if y = 0 then none else kont (pc' + 1, lo, .int (x / y) :: st) hs) = some (o, hs') := h
      rw [if_neg hy] at h
      intro h1 h2
      obtain ⟨g1, g2, g3⟩ := hk _ _ h h1 h2
      refine ⟨g1, g2, fun al H locs ls w wl wv hl => ?_⟩
      exact lv_idiv hx hb d hy (g3 al H locs ls w wl (ev_allc trivial (ev_tl (ev_tl wv))) hl)
theorem ok_irem (d : decode cc pc = .ok (.irem, 1)) : ev_Ok cc nL hh own Ts Tn Tq cl isI CO pc (a_iiN (fun x y => x - x / y * y)) := by
  intro p l e R s m args below meth c Q D cs ox A al0 k0 n0 call kont f hs o hs' cx hI hC hR hT hpc h hk
  obtain ⟨pc', lo, st⟩ := f
  cases hpc
  obtain ⟨⟨hx, hb, hml, hown, hts⟩, ⟨hKK, hA, hNw, hZU, hZS, hTq, hNc, hX⟩, hEx, hRc, hRs⟩ := cx
  match st, h with
  | .int y :: .int x :: st, h =>
    by_cases hy : y = 0
    · have h : (if y = 0 then none else kont (pc' + 1, lo, .int (x - x / y * y) :: st) hs) = some (o, hs') := h
      rw [if_pos hy] at h; cases h
    · have h : (if y = 0 then none else kont (pc' + 1, lo, .int (x - x / y * y) :: st) hs) = some (o, hs') := h
      rw [if_neg hy] at h
      intro h1 h2
      obtain ⟨g1, g2, g3⟩ := hk _ _ h h1 h2
      refine ⟨g1, g2, fun al H locs ls w wl wv hl => ?_⟩
      exact lv_irem hx hb d hy (g3 al H locs ls w wl (ev_allc trivial (ev_tl (ev_tl wv))) hl)
theorem ok_ineg (d : decode cc pc = .ok (.ineg, 1)) : ev_Ok cc nL hh own Ts Tn Tq cl isI CO pc (a_i (fun x => .int (-x))) := by
  intro p l e R s m args below meth c Q D cs ox A al0 k0 n0 call kont f hs o hs' cx hI hC hR hT hpc h hk
  obtain ⟨pc', lo, st⟩ := f
  cases hpc
  obtain ⟨⟨hx, hb, hml, hown, hts⟩, ⟨hKK, hA, hNw, hZU, hZS, hTq, hNc, hX⟩, hEx, hRc, hRs⟩ := cx
  match st, h with
  | .int x :: st, h =>
    intro h1 h2
    obtain ⟨g1, g2, g3⟩ := hk _ _ h h1 h2
    refine ⟨g1, g2, fun al H locs ls w wl wv hl => ?_⟩
    exact lv_ineg hx hb d (g3 al H locs ls w wl (ev_allc trivial (ev_tl wv)) hl)
theorem ok_i2l (d : decode cc pc = .ok (.i2l, 1)) : ev_Ok cc nL hh own Ts Tn Tq cl isI CO pc (a_i (fun x => .long x.toInt64)) := by
  intro p l e R s m args below meth c Q D cs ox A al0 k0 n0 call kont f hs o hs' cx hI hC hR hT hpc h hk
  obtain ⟨pc', lo, st⟩ := f
  cases hpc
  obtain ⟨⟨hx, hb, hml, hown, hts⟩, ⟨hKK, hA, hNw, hZU, hZS, hTq, hNc, hX⟩, hEx, hRc, hRs⟩ := cx
  match st, h with
  | .int x :: st, h =>
    intro h1 h2
    obtain ⟨g1, g2, g3⟩ := hk _ _ h h1 h2
    refine ⟨g1, g2, fun al H locs ls w wl wv hl => ?_⟩
    exact lv_i2l hx hb d rfl (g3 al H locs ls w wl (ev_allc trivial (ev_tl wv)) hl)
theorem ok_i2d (d : decode cc pc = .ok (.i2d, 1)) : ev_Ok cc nL hh own Ts Tn Tq cl isI CO pc (a_i (fun x => .double (FP.i2d x))) := by
  intro p l e R s m args below meth c Q D cs ox A al0 k0 n0 call kont f hs o hs' cx hI hC hR hT hpc h hk
  obtain ⟨pc', lo, st⟩ := f
  cases hpc
  obtain ⟨⟨hx, hb, hml, hown, hts⟩, ⟨hKK, hA, hNw, hZU, hZS, hTq, hNc, hX⟩, hEx, hRc, hRs⟩ := cx
  match st, h with
  | .int x :: st, h =>
    intro h1 h2
    obtain ⟨g1, g2, g3⟩ := hk _ _ h h1 h2
    refine ⟨g1, g2, fun al H locs ls w wl wv hl => ?_⟩
    exact lv_i2d hx hb d (g3 al H locs ls w wl (ev_allc trivial (ev_tl wv)) hl)
theorem ok_ladd (d : decode cc pc = .ok (.ladd, 1)) : ev_Ok cc nL hh own Ts Tn Tq cl isI CO pc (a_ll (fun x y => .long (x + y))) := by
  intro p l e R s m args below meth c Q D cs ox A al0 k0 n0 call kont f hs o hs' cx hI hC hR hT hpc h hk
  obtain ⟨pc', lo, st⟩ := f
  cases hpc
  obtain ⟨⟨hx, hb, hml, hown, hts⟩, ⟨hKK, hA, hNw, hZU, hZS, hTq, hNc, hX⟩, hEx, hRc, hRs⟩ := cx
  match st, h with
  | .long y :: .long x :: st, h =>
    intro h1 h2
    obtain ⟨g1, g2, g3⟩ := hk _ _ h h1 h2
    refine ⟨g1, g2, fun al H locs ls w wl wv hl => ?_⟩
    exact lv_ladd hx hb d (g3 al H locs ls w wl (ev_allc trivial (ev_tl (ev_tl wv))) hl)
theorem ok_lmul (d : decode cc pc = .ok (.lmul, 1)) : ev_Ok cc nL hh own Ts Tn Tq cl isI CO pc (a_ll (fun x y => .long (x * y))) := by
  intro p l e R s m args below meth c Q D cs ox A al0 k0 n0 call kont f hs o hs' cx hI hC hR hT hpc h hk
  obtain ⟨pc', lo, st⟩ := f
  cases hpc
  obtain ⟨⟨hx, hb, hml, hown, hts⟩, ⟨hKK, hA, hNw, hZU, hZS, hTq, hNc, hX⟩, hEx, hRc, hRs⟩ := cx
  match st, h with
  | .long y :: .long x :: st, h =>
    intro h1 h2
    obtain ⟨g1, g2, g3⟩ := hk _ _ h h1 h2
    refine ⟨g1, g2, fun al H locs ls w wl wv hl => ?_⟩
    exact lv_lmul hx hb d (g3 al H locs ls w wl (ev_allc trivial (ev_tl (ev_tl wv))) hl)
theorem ok_lcmp (d : decode cc pc = .ok (.lcmp, 1)) : ev_Ok cc nL hh own Ts Tn Tq cl isI CO pc (a_ll (fun x y => .int (lg_cmp x y))) := by
  intro p l e R s m args below meth c Q D cs ox A al0 k0 n0 call kont f hs o hs' cx hI hC hR hT hpc h hk
  obtain ⟨pc', lo, st⟩ := f
  cases hpc
  obtain ⟨⟨hx, hb, hml, hown, hts⟩, ⟨hKK, hA, hNw, hZU, hZS, hTq, hNc, hX⟩, hEx, hRc, hRs⟩ := cx
  match st, h with
  | .long y :: .long x :: st, h =>
    intro h1 h2
    obtain ⟨g1, g2, g3⟩ := hk _ _ h h1 h2
    refine ⟨g1, g2, fun al H locs ls w wl wv hl => ?_⟩
    exact W.lcmp hx hb d (g3 al H locs ls w wl (ev_allc trivial (ev_tl (ev_tl wv))) hl)
theorem ok_iconst {n : Int} {v : Int32} (d : decode cc pc = .ok (.iconst n, 1)) (hv : Int32.ofInt n = v) : ev_Ok cc nL hh own Ts Tn Tq cl isI CO pc (a_push 1 (.int v)) := by
  intro p l e R s m args below meth c Q D cs ox A al0 k0 n0 call kont f hs o hs' cx hI hC hR hT hpc h hk
  obtain ⟨pc', lo, st⟩ := f
  cases hpc
  obtain ⟨⟨hx, hb, hml, hown, hts⟩, ⟨hKK, hA, hNw, hZU, hZS, hTq, hNc, hX⟩, hEx, hRc, hRs⟩ := cx
  intro h1 h2
  obtain ⟨g1, g2, g3⟩ := hk _ _ h h1 h2
  refine ⟨g1, g2, fun al H locs ls w wl wv hl => ?_⟩
  exact lv_iconst hx hb d hv (g3 al H locs ls w wl (ev_allc trivial wv) hl)
theorem ok_bipush {n : Int} {v : Int32} (d : decode cc pc = .ok (.bipush n, 2)) (hv : (Int8.ofInt n).toInt32 = v) : ev_Ok cc nL hh own Ts Tn Tq cl isI CO pc (a_push 2 (.int v)) := by
  intro p l e R s m args below meth c Q D cs ox A al0 k0 n0 call kont f hs o hs' cx hI hC hR hT hpc h hk
  obtain ⟨pc', lo, st⟩ := f
  cases hpc
  obtain ⟨⟨hx, hb, hml, hown, hts⟩, ⟨hKK, hA, hNw, hZU, hZS, hTq, hNc, hX⟩, hEx, hRc, hRs⟩ := cx
  intro h1 h2
  obtain ⟨g1, g2, g3⟩ := hk _ _ h h1 h2
  refine ⟨g1, g2, fun al H locs ls w wl wv hl => ?_⟩
  exact lv_bipush hx hb d hv (g3 al H locs ls w wl (ev_allc trivial wv) hl)
theorem ok_sipush {n : Int} {v : Int32} (d : decode cc pc = .ok (.sipush n, 3)) (hv : (Int16.ofInt n).toInt32 = v) : ev_Ok cc nL hh own Ts Tn Tq cl isI CO pc (a_push 3 (.int v)) := by
  intro p l e R s m args below meth c Q D cs ox A al0 k0 n0 call kont f hs o hs' cx hI hC hR hT hpc h hk
  obtain ⟨pc', lo, st⟩ := f
  cases hpc
  obtain ⟨⟨hx, hb, hml, hown, hts⟩, ⟨hKK, hA, hNw, hZU, hZS, hTq, hNc, hX⟩, hEx, hRc, hRs⟩ := cx
  intro h1 h2
  obtain ⟨g1, g2, g3⟩ := hk _ _ h h1 h2
  refine ⟨g1, g2, fun al H locs ls w wl wv hl => ?_⟩
  exact lv_sipush hx hb d hv (g3 al H locs ls w wl (ev_allc trivial wv) hl)
theorem ok_dconst0 (d : decode cc pc = .ok (.dconst 0, 1)) : ev_Ok cc nL hh own Ts Tn Tq cl isI CO pc (a_push 1 (.double FP.dconst0)) := by
  intro p l e R s m args below meth c Q D cs ox A al0 k0 n0 call kont f hs o hs' cx hI hC hR hT hpc h hk
  obtain ⟨pc', lo, st⟩ := f
  cases hpc
  obtain ⟨⟨hx, hb, hml, hown, hts⟩, ⟨hKK, hA, hNw, hZU, hZS, hTq, hNc, hX⟩, hEx, hRc, hRs⟩ := cx
  intro h1 h2
  obtain ⟨g1, g2, g3⟩ := hk _ _ h h1 h2
  refine ⟨g1, g2, fun al H locs ls w wl wv hl => ?_⟩
  exact lv_dconst0 hx hb d (g3 al H locs ls w wl (ev_allc trivial wv) hl)
theorem ok_ldc {index : Nat} {v : Int32} (d : decode cc pc = .ok (.ldc index, 2)) (hw : Cond.constant own index v ∈ Ts) : ev_Ok cc nL hh own Ts Tn Tq cl isI CO pc (a_push 2 (.int v)) := by
  intro p l e R s m args below meth c Q D cs ox A al0 k0 n0 call kont f hs o hs' cx hI hC hR hT hpc h hk
  obtain ⟨pc', lo, st⟩ := f
  cases hpc
  obtain ⟨⟨hx, hb, hml, hown, hts⟩, ⟨hKK, hA, hNw, hZU, hZS, hTq, hNc, hX⟩, hEx, hRc, hRs⟩ := cx
  intro h1 h2
  obtain ⟨g1, g2, g3⟩ := hk _ _ h h1 h2
  refine ⟨g1, g2, fun al H locs ls w wl wv hl => ?_⟩
  exact lv_ldc hx hb hown (hts _ hw) d (g3 al H locs ls w wl (ev_allc trivial wv) hl)
theorem ok_ldcw {index : Nat} {v : Int32} (d : decode cc pc = .ok (.ldc_w index, 3)) (hw : Cond.constant own index v ∈ Ts) : ev_Ok cc nL hh own Ts Tn Tq cl isI CO pc (a_push 3 (.int v)) := by
  intro p l e R s m args below meth c Q D cs ox A al0 k0 n0 call kont f hs o hs' cx hI hC hR hT hpc h hk
  obtain ⟨pc', lo, st⟩ := f
  cases hpc
  obtain ⟨⟨hx, hb, hml, hown, hts⟩, ⟨hKK, hA, hNw, hZU, hZS, hTq, hNc, hX⟩, hEx, hRc, hRs⟩ := cx
  intro h1 h2
  obtain ⟨g1, g2, g3⟩ := hk _ _ h h1 h2
  refine ⟨g1, g2, fun al H locs ls w wl wv hl => ?_⟩
  exact lv_ldcw hx hb hown (hts _ hw) d (g3 al H locs ls w wl (ev_allc trivial wv) hl)
theorem ok_ldc2 {index : Nat} {v : Int64} (d : decode cc pc = .ok (.ldc2_w index, 3)) (hw : Cond.constantLong own index v ∈ Ts) : ev_Ok cc nL hh own Ts Tn Tq cl isI CO pc (a_push 3 (.long v)) := by
  intro p l e R s m args below meth c Q D cs ox A al0 k0 n0 call kont f hs o hs' cx hI hC hR hT hpc h hk
  obtain ⟨pc', lo, st⟩ := f
  cases hpc
  obtain ⟨⟨hx, hb, hml, hown, hts⟩, ⟨hKK, hA, hNw, hZU, hZS, hTq, hNc, hX⟩, hEx, hRc, hRs⟩ := cx
  intro h1 h2
  obtain ⟨g1, g2, g3⟩ := hk _ _ h h1 h2
  refine ⟨g1, g2, fun al H locs ls w wl wv hl => ?_⟩
  exact lv_ldc2 hx hb hown (hts _ hw) d (g3 al H locs ls w wl (ev_allc trivial wv) hl)
theorem ok_goto {off : Int} {t : Nat} (d : decode cc pc = .ok (.goto off, 3)) (ht : (pc : Int) + off = (t : Int)) : ev_Ok cc nL hh own Ts Tn Tq cl isI CO pc (a_goto t) := by
  intro p l e R s m args below meth c Q D cs ox A al0 k0 n0 call kont f hs o hs' cx hI hC hR hT hpc h hk
  obtain ⟨pc', lo, st⟩ := f
  cases hpc
  obtain ⟨⟨hx, hb, hml, hown, hts⟩, ⟨hKK, hA, hNw, hZU, hZS, hTq, hNc, hX⟩, hEx, hRc, hRs⟩ := cx
  intro h1 h2
  obtain ⟨g1, g2, g3⟩ := hk _ _ h h1 h2
  refine ⟨g1, g2, fun al H locs ls w wl wv hl => ?_⟩
  exact lv_goto hx hb d ht (g3 al H locs ls w wl wv hl)
theorem ok_if_eq {off : Int} {t : Nat} (d : decode cc pc = .ok (.ifCond .eq off, 3)) (ht : (pc : Int) + off = (t : Int)) : ev_Ok cc nL hh own Ts Tn Tq cl isI CO pc (a_if t (fun x => decide (x = 0))) := by
  intro p l e R s m args below meth c Q D cs ox A al0 k0 n0 call kont f hs o hs' cx hI hC hR hT hpc h hk
  obtain ⟨pc', lo, st⟩ := f
  cases hpc
  obtain ⟨⟨hx, hb, hml, hown, hts⟩, ⟨hKK, hA, hNw, hZU, hZS, hTq, hNc, hX⟩, hEx, hRc, hRs⟩ := cx
  match st, h with
  | .int x :: st, h =>
    have h : (bif decide (x = 0) then kont (t, lo, st) hs else kont (pc' + 3, lo, st) hs) = some (o, hs') := h
    by_cases q : x = 0
    · rw [decide_eq_true q] at h
      intro h1 h2
      obtain ⟨g1, g2, g3⟩ := hk _ _ h h1 h2
      refine ⟨g1, g2, fun al H locs ls w wl wv hl => ?_⟩
      refine lv_if_eq hx hb d ht (fun q' => ?_) (fun q' => ?_)
      · exact g3 al H locs ls w wl (ev_tl wv) hl
      · exact absurd q q'
    · rw [decide_eq_false q] at h
      intro h1 h2
      obtain ⟨g1, g2, g3⟩ := hk _ _ h h1 h2
      refine ⟨g1, g2, fun al H locs ls w wl wv hl => ?_⟩
      refine lv_if_eq hx hb d ht (fun q' => ?_) (fun q' => ?_)
      · exact absurd q' q
      · exact g3 al H locs ls w wl (ev_tl wv) hl
theorem ok_if_ne {off : Int} {t : Nat} (d : decode cc pc = .ok (.ifCond .ne off, 3)) (ht : (pc : Int) + off = (t : Int)) : ev_Ok cc nL hh own Ts Tn Tq cl isI CO pc (a_if t (fun x => !decide (x = 0))) := by
  intro p l e R s m args below meth c Q D cs ox A al0 k0 n0 call kont f hs o hs' cx hI hC hR hT hpc h hk
  obtain ⟨pc', lo, st⟩ := f
  cases hpc
  obtain ⟨⟨hx, hb, hml, hown, hts⟩, ⟨hKK, hA, hNw, hZU, hZS, hTq, hNc, hX⟩, hEx, hRc, hRs⟩ := cx
  match st, h with
  | .int x :: st, h =>
    have h : (bif !decide (x = 0) then kont (t, lo, st) hs else kont (pc' + 3, lo, st) hs) = some (o, hs') := h
    by_cases q : x = 0
    · rw [decide_eq_true q] at h
      intro h1 h2
      obtain ⟨g1, g2, g3⟩ := hk _ _ h h1 h2
      refine ⟨g1, g2, fun al H locs ls w wl wv hl => ?_⟩
      refine lv_if_ne hx hb d ht (fun q' => ?_) (fun q' => ?_)
      · exact absurd q q'
      · exact g3 al H locs ls w wl (ev_tl wv) hl
    · rw [decide_eq_false q] at h
      intro h1 h2
      obtain ⟨g1, g2, g3⟩ := hk _ _ h h1 h2
      refine ⟨g1, g2, fun al H locs ls w wl wv hl => ?_⟩
      refine lv_if_ne hx hb d ht (fun q' => ?_) (fun q' => ?_)
      · exact g3 al H locs ls w wl (ev_tl wv) hl
      · exact absurd q' q
theorem ok_if_lt {off : Int} {t : Nat} (d : decode cc pc = .ok (.ifCond .lt off, 3)) (ht : (pc : Int) + off = (t : Int)) : ev_Ok cc nL hh own Ts Tn Tq cl isI CO pc (a_if t (fun x => decide (x < 0))) := by
  intro p l e R s m args below meth c Q D cs ox A al0 k0 n0 call kont f hs o hs' cx hI hC hR hT hpc h hk
  obtain ⟨pc', lo, st⟩ := f
  cases hpc
  obtain ⟨⟨hx, hb, hml, hown, hts⟩, ⟨hKK, hA, hNw, hZU, hZS, hTq, hNc, hX⟩, hEx, hRc, hRs⟩ := cx
  match st, h with
  | .int x :: st, h =>
    have h : (bif decide (x < 0) then kont (t, lo, st) hs else kont (pc' + 3, lo, st) hs) = some (o, hs') := h
    by_cases q : x < 0
    · rw [decide_eq_true q] at h
      intro h1 h2
      obtain ⟨g1, g2, g3⟩ := hk _ _ h h1 h2
      refine ⟨g1, g2, fun al H locs ls w wl wv hl => ?_⟩
      refine lv_if_lt hx hb d ht (fun q' => ?_) (fun q' => ?_)
      · exact g3 al H locs ls w wl (ev_tl wv) hl
      · exact absurd q q'
    · rw [decide_eq_false q] at h
      intro h1 h2
      obtain ⟨g1, g2, g3⟩ := hk _ _ h h1 h2
      refine ⟨g1, g2, fun al H locs ls w wl wv hl => ?_⟩
      refine lv_if_lt hx hb d ht (fun q' => ?_) (fun q' => ?_)
      · exact absurd q' q
      · exact g3 al H locs ls w wl (ev_tl wv) hl
theorem ok_if_ge {off : Int} {t : Nat} (d : decode cc pc = .ok (.ifCond .ge off, 3)) (ht : (pc : Int) + off = (t : Int)) : ev_Ok cc nL hh own Ts Tn Tq cl isI CO pc (a_if t (fun x => decide (0 ≤ x))) := by
  intro p l e R s m args below meth c Q D cs ox A al0 k0 n0 call kont f hs o hs' cx hI hC hR hT hpc h hk
  obtain ⟨pc', lo, st⟩ := f
  cases hpc
  obtain ⟨⟨hx, hb, hml, hown, hts⟩, ⟨hKK, hA, hNw, hZU, hZS, hTq, hNc, hX⟩, hEx, hRc, hRs⟩ := cx
  match st, h with
  | .int x :: st, h =>
    have h : (bif decide (0 ≤ x) then kont (t, lo, st) hs else kont (pc' + 3, lo, st) hs) = some (o, hs') := h
    by_cases q : 0 ≤ x
    · rw [decide_eq_true q] at h
      intro h1 h2
      obtain ⟨g1, g2, g3⟩ := hk _ _ h h1 h2
      refine ⟨g1, g2, fun al H locs ls w wl wv hl => ?_⟩
      refine lv_if_ge hx hb d ht (fun q' => ?_) (fun q' => ?_)
      · exact g3 al H locs ls w wl (ev_tl wv) hl
      · exact absurd q q'
    · rw [decide_eq_false q] at h
      intro h1 h2
      obtain ⟨g1, g2, g3⟩ := hk _ _ h h1 h2
      refine ⟨g1, g2, fun al H locs ls w wl wv hl => ?_⟩
      refine lv_if_ge hx hb d ht (fun q' => ?_) (fun q' => ?_)
      · exact absurd q' q
      · exact g3 al H locs ls w wl (ev_tl wv) hl
theorem ok_if_gt {off : Int} {t : Nat} (d : decode cc pc = .ok (.ifCond .gt off, 3)) (ht : (pc : Int) + off = (t : Int)) : ev_Ok cc nL hh own Ts Tn Tq cl isI CO pc (a_if t (fun x => decide (0 < x))) := by
  intro p l e R s m args below meth c Q D cs ox A al0 k0 n0 call kont f hs o hs' cx hI hC hR hT hpc h hk
  obtain ⟨pc', lo, st⟩ := f
  cases hpc
  obtain ⟨⟨hx, hb, hml, hown, hts⟩, ⟨hKK, hA, hNw, hZU, hZS, hTq, hNc, hX⟩, hEx, hRc, hRs⟩ := cx
  match st, h with
  | .int x :: st, h =>
    have h : (bif decide (0 < x) then kont (t, lo, st) hs else kont (pc' + 3, lo, st) hs) = some (o, hs') := h
    by_cases q : 0 < x
    · rw [decide_eq_true q] at h
      intro h1 h2
      obtain ⟨g1, g2, g3⟩ := hk _ _ h h1 h2
      refine ⟨g1, g2, fun al H locs ls w wl wv hl => ?_⟩
      refine lv_if_gt hx hb d ht (fun q' => ?_) (fun q' => ?_)
      · exact g3 al H locs ls w wl (ev_tl wv) hl
      · exact absurd q q'
    · rw [decide_eq_false q] at h
      intro h1 h2
      obtain ⟨g1, g2, g3⟩ := hk _ _ h h1 h2
      refine ⟨g1, g2, fun al H locs ls w wl wv hl => ?_⟩
      refine lv_if_gt hx hb d ht (fun q' => ?_) (fun q' => ?_)
      · exact absurd q' q
      · exact g3 al H locs ls w wl (ev_tl wv) hl
theorem ok_if_le {off : Int} {t : Nat} (d : decode cc pc = .ok (.ifCond .le off, 3)) (ht : (pc : Int) + off = (t : Int)) : ev_Ok cc nL hh own Ts Tn Tq cl isI CO pc (a_if t (fun x => decide (x ≤ 0))) := by
  intro p l e R s m args below meth c Q D cs ox A al0 k0 n0 call kont f hs o hs' cx hI hC hR hT hpc h hk
  obtain ⟨pc', lo, st⟩ := f
  cases hpc
  obtain ⟨⟨hx, hb, hml, hown, hts⟩, ⟨hKK, hA, hNw, hZU, hZS, hTq, hNc, hX⟩, hEx, hRc, hRs⟩ := cx
  match st, h with
  | .int x :: st, h =>
    have h : (bif decide (x ≤ 0) then kont (t, lo, st) hs else kont (pc' + 3, lo, st) hs) = some (o, hs') := h
    by_cases q : x ≤ 0
    · rw [decide_eq_true q] at h
      intro h1 h2
      obtain ⟨g1, g2, g3⟩ := hk _ _ h h1 h2
      refine ⟨g1, g2, fun al H locs ls w wl wv hl => ?_⟩
      refine lv_if_le hx hb d ht (fun q' => ?_) (fun q' => ?_)
      · exact g3 al H locs ls w wl (ev_tl wv) hl
      · exact absurd q q'
    · rw [decide_eq_false q] at h
      intro h1 h2
      obtain ⟨g1, g2, g3⟩ := hk _ _ h h1 h2
      refine ⟨g1, g2, fun al H locs ls w wl wv hl => ?_⟩
      refine lv_if_le hx hb d ht (fun q' => ?_) (fun q' => ?_)
      · exact absurd q' q
      · exact g3 al H locs ls w wl (ev_tl wv) hl
theorem ok_icmp_eq {off : Int} {t : Nat} (d : decode cc pc = .ok (.if_icmp .eq off, 3)) (ht : (pc : Int) + off = (t : Int)) : ev_Ok cc nL hh own Ts Tn Tq cl isI CO pc (a_ic t (fun x y => decide (x = y))) := by
  intro p l e R s m args below meth c Q D cs ox A al0 k0 n0 call kont f hs o hs' cx hI hC hR hT hpc h hk
  obtain ⟨pc', lo, st⟩ := f
  cases hpc
  obtain ⟨⟨hx, hb, hml, hown, hts⟩, ⟨hKK, hA, hNw, hZU, hZS, hTq, hNc, hX⟩, hEx, hRc, hRs⟩ := cx
  match st, h with
  | .int y :: .int x :: st, h =>
    have h : (bif decide (x = y) then kont (t, lo, st) hs else kont (pc' + 3, lo, st) hs) = some (o, hs') := h
    by_cases q : x = y
    · rw [decide_eq_true q] at h
      intro h1 h2
      obtain ⟨g1, g2, g3⟩ := hk _ _ h h1 h2
      refine ⟨g1, g2, fun al H locs ls w wl wv hl => ?_⟩
      refine lv_icmp_eq hx hb d ht (fun q' => ?_) (fun q' => ?_)
      · exact g3 al H locs ls w wl (ev_tl (ev_tl wv)) hl
      · exact absurd q q'
    · rw [decide_eq_false q] at h
      intro h1 h2
      obtain ⟨g1, g2, g3⟩ := hk _ _ h h1 h2
      refine ⟨g1, g2, fun al H locs ls w wl wv hl => ?_⟩
      refine lv_icmp_eq hx hb d ht (fun q' => ?_) (fun q' => ?_)
      · exact absurd q' q
      · exact g3 al H locs ls w wl (ev_tl (ev_tl wv)) hl
theorem ok_icmp_ne {off : Int} {t : Nat} (d : decode cc pc = .ok (.if_icmp .ne off, 3)) (ht : (pc : Int) + off = (t : Int)) : ev_Ok cc nL hh own Ts Tn Tq cl isI CO pc (a_ic t (fun x y => !decide (x = y))) := by
  intro p l e R s m args below meth c Q D cs ox A al0 k0 n0 call kont f hs o hs' cx hI hC hR hT hpc h hk
  obtain ⟨pc', lo, st⟩ := f
  cases hpc
  obtain ⟨⟨hx, hb, hml, hown, hts⟩, ⟨hKK, hA, hNw, hZU, hZS, hTq, hNc, hX⟩, hEx, hRc, hRs⟩ := cx
  match st, h with
  | .int y :: .int x :: st, h =>
    have h : (bif !decide (x = y) then kont (t, lo, st) hs else kont (pc' + 3, lo, st) hs) = some (o, hs') := h
    by_cases q : x = y
    · rw [decide_eq_true q] at h
      intro h1 h2
      obtain ⟨g1, g2, g3⟩ := hk _ _ h h1 h2
      refine ⟨g1, g2, fun al H locs ls w wl wv hl => ?_⟩
      refine lv_icmp_ne hx hb d ht (fun q' => ?_) (fun q' => ?_)
      · exact absurd q q'
      · exact g3 al H locs ls w wl (ev_tl (ev_tl wv)) hl
    · rw [decide_eq_false q] at h
      intro h1 h2
      obtain ⟨g1, g2, g3⟩ := hk _ _ h h1 h2
      refine ⟨g1, g2, fun al H locs ls w wl wv hl => ?_⟩
      refine lv_icmp_ne hx hb d ht (fun q' => ?_) (fun q' => ?_)
      · exact g3 al H locs ls w wl (ev_tl (ev_tl wv)) hl
      · exact absurd q' q
theorem ok_icmp_lt {off : Int} {t : Nat} (d : decode cc pc = .ok (.if_icmp .lt off, 3)) (ht : (pc : Int) + off = (t : Int)) : ev_Ok cc nL hh own Ts Tn Tq cl isI CO pc (a_ic t (fun x y => decide (x < y))) := by
  intro p l e R s m args below meth c Q D cs ox A al0 k0 n0 call kont f hs o hs' cx hI hC hR hT hpc h hk
  obtain ⟨pc', lo, st⟩ := f
  cases hpc
  obtain ⟨⟨hx, hb, hml, hown, hts⟩, ⟨hKK, hA, hNw, hZU, hZS, hTq, hNc, hX⟩, hEx, hRc, hRs⟩ := cx
  match st, h with
  | .int y :: .int x :: st, h =>
    have h : (bif decide (x < y) then kont (t, lo, st) hs else kont (pc' + 3, lo, st) hs) = some (o, hs') := h
    by_cases q : x < y
    · rw [decide_eq_true q] at h
      intro h1 h2
      obtain ⟨g1, g2, g3⟩ := hk _ _ h h1 h2
      refine ⟨g1, g2, fun al H locs ls w wl wv hl => ?_⟩
      refine lv_icmp_lt hx hb d ht (fun q' => ?_) (fun q' => ?_)
      · exact g3 al H locs ls w wl (ev_tl (ev_tl wv)) hl
      · exact absurd q q'
    · rw [decide_eq_false q] at h
      intro h1 h2
      obtain ⟨g1, g2, g3⟩ := hk _ _ h h1 h2
      refine ⟨g1, g2, fun al H locs ls w wl wv hl => ?_⟩
      refine lv_icmp_lt hx hb d ht (fun q' => ?_) (fun q' => ?_)
      · exact absurd q' q
      · exact g3 al H locs ls w wl (ev_tl (ev_tl wv)) hl
theorem ok_icmp_ge {off : Int} {t : Nat} (d : decode cc pc = .ok (.if_icmp .ge off, 3)) (ht : (pc : Int) + off = (t : Int)) : ev_Ok cc nL hh own Ts Tn Tq cl isI CO pc (a_ic t (fun x y => decide (y ≤ x))) := by
  intro p l e R s m args below meth c Q D cs ox A al0 k0 n0 call kont f hs o hs' cx hI hC hR hT hpc h hk
  obtain ⟨pc', lo, st⟩ := f
  cases hpc
  obtain ⟨⟨hx, hb, hml, hown, hts⟩, ⟨hKK, hA, hNw, hZU, hZS, hTq, hNc, hX⟩, hEx, hRc, hRs⟩ := cx
  match st, h with
  | .int y :: .int x :: st, h =>
    have h : (bif decide (y ≤ x) then kont (t, lo, st) hs else kont (pc' + 3, lo, st) hs) = some (o, hs') := h
    by_cases q : y ≤ x
    · rw [decide_eq_true q] at h
      intro h1 h2
      obtain ⟨g1, g2, g3⟩ := hk _ _ h h1 h2
      refine ⟨g1, g2, fun al H locs ls w wl wv hl => ?_⟩
      refine lv_icmp_ge hx hb d ht (fun q' => ?_) (fun q' => ?_)
      · exact g3 al H locs ls w wl (ev_tl (ev_tl wv)) hl
      · exact absurd q q'
    · rw [decide_eq_false q] at h
      intro h1 h2
      obtain ⟨g1, g2, g3⟩ := hk _ _ h h1 h2
      refine ⟨g1, g2, fun al H locs ls w wl wv hl => ?_⟩
      refine lv_icmp_ge hx hb d ht (fun q' => ?_) (fun q' => ?_)
      · exact absurd q' q
      · exact g3 al H locs ls w wl (ev_tl (ev_tl wv)) hl
theorem ok_icmp_gt {off : Int} {t : Nat} (d : decode cc pc = .ok (.if_icmp .gt off, 3)) (ht : (pc : Int) + off = (t : Int)) : ev_Ok cc nL hh own Ts Tn Tq cl isI CO pc (a_ic t (fun x y => decide (y < x))) := by
  intro p l e R s m args below meth c Q D cs ox A al0 k0 n0 call kont f hs o hs' cx hI hC hR hT hpc h hk
  obtain ⟨pc', lo, st⟩ := f
  cases hpc
  obtain ⟨⟨hx, hb, hml, hown, hts⟩, ⟨hKK, hA, hNw, hZU, hZS, hTq, hNc, hX⟩, hEx, hRc, hRs⟩ := cx
  match st, h with
  | .int y :: .int x :: st, h =>
    have h : (bif decide (y < x) then kont (t, lo, st) hs else kont (pc' + 3, lo, st) hs) = some (o, hs') := h
    by_cases q : y < x
    · rw [decide_eq_true q] at h
      intro h1 h2
      obtain ⟨g1, g2, g3⟩ := hk _ _ h h1 h2
      refine ⟨g1, g2, fun al H locs ls w wl wv hl => ?_⟩
      refine lv_icmp_gt hx hb d ht (fun q' => ?_) (fun q' => ?_)
      · exact g3 al H locs ls w wl (ev_tl (ev_tl wv)) hl
      · exact absurd q q'
    · rw [decide_eq_false q] at h
      intro h1 h2
      obtain ⟨g1, g2, g3⟩ := hk _ _ h h1 h2
      refine ⟨g1, g2, fun al H locs ls w wl wv hl => ?_⟩
      refine lv_icmp_gt hx hb d ht (fun q' => ?_) (fun q' => ?_)
      · exact absurd q' q
      · exact g3 al H locs ls w wl (ev_tl (ev_tl wv)) hl
theorem ok_icmp_le {off : Int} {t : Nat} (d : decode cc pc = .ok (.if_icmp .le off, 3)) (ht : (pc : Int) + off = (t : Int)) : ev_Ok cc nL hh own Ts Tn Tq cl isI CO pc (a_ic t (fun x y => decide (x ≤ y))) := by
  intro p l e R s m args below meth c Q D cs ox A al0 k0 n0 call kont f hs o hs' cx hI hC hR hT hpc h hk
  obtain ⟨pc', lo, st⟩ := f
  cases hpc
  obtain ⟨⟨hx, hb, hml, hown, hts⟩, ⟨hKK, hA, hNw, hZU, hZS, hTq, hNc, hX⟩, hEx, hRc, hRs⟩ := cx
  match st, h with
  | .int y :: .int x :: st, h =>
    have h : (bif decide (x ≤ y) then kont (t, lo, st) hs else kont (pc' + 3, lo, st) hs) = some (o, hs') := h
    by_cases q : x ≤ y
    · rw [decide_eq_true q] at h
      intro h1 h2
      obtain ⟨g1, g2, g3⟩ := hk _ _ h h1 h2
      refine ⟨g1, g2, fun al H locs ls w wl wv hl => ?_⟩
      refine lv_icmp_le hx hb d ht (fun q' => ?_) (fun q' => ?_)
      · exact g3 al H locs ls w wl (ev_tl (ev_tl wv)) hl
      · exact absurd q q'
    · rw [decide_eq_false q] at h
      intro h1 h2
      obtain ⟨g1, g2, g3⟩ := hk _ _ h h1 h2
      refine ⟨g1, g2, fun al H locs ls w wl wv hl => ?_⟩
      refine lv_icmp_le hx hb d ht (fun q' => ?_) (fun q' => ?_)
      · exact absurd q' q
      · exact g3 al H locs ls w wl (ev_tl (ev_tl wv)) hl
theorem ok_iload_n {k : Fin 4} {i : Nat} (d : decode cc pc = .ok (.iload_n k, 1)) (hi : (k : Nat) = i) : ev_Ok cc nL hh own Ts Tn Tq cl isI CO pc (a_iload 1 i) := by
  intro p l e R s m args below meth c Q D cs ox A al0 k0 n0 call kont f hs o hs' cx hI hC hR hT hpc h hk
  obtain ⟨pc', lo, st⟩ := f
  cases hpc
  obtain ⟨⟨hx, hb, hml, hown, hts⟩, ⟨hKK, hA, hNw, hZU, hZS, hTq, hNc, hX⟩, hEx, hRc, hRs⟩ := cx
  have h : a_iload 1 i call kont (pc', lo, st) hs = some (o, hs') := h
  unfold a_iload at h
  dsimp only at h
  cases hq : ev_look lo i with
  | none => rw [hq] at h; cases h
  | some v =>
    rw [hq] at h
    cases v with
    | int x =>
      intro h1 h2
      obtain ⟨g1, g2, g3⟩ := hk _ _ h h1 h2
      refine ⟨g1, g2, fun al H locs ls w wl wv hl => ?_⟩
      exact lv_iload_n hx hb d hi (ev_local hl hq) (g3 al H locs ls w wl (ev_allc (ev_look_ok wl hq) wv) hl)
    | _ => cases h
theorem ok_iload {i : Nat} (d : decode cc pc = .ok (.iload i, 2)) : ev_Ok cc nL hh own Ts Tn Tq cl isI CO pc (a_iload 2 i) := by
  intro p l e R s m args below meth c Q D cs ox A al0 k0 n0 call kont f hs o hs' cx hI hC hR hT hpc h hk
  obtain ⟨pc', lo, st⟩ := f
  cases hpc
  obtain ⟨⟨hx, hb, hml, hown, hts⟩, ⟨hKK, hA, hNw, hZU, hZS, hTq, hNc, hX⟩, hEx, hRc, hRs⟩ := cx
  have h : a_iload 2 i call kont (pc', lo, st) hs = some (o, hs') := h
  unfold a_iload at h
  dsimp only at h
  cases hq : ev_look lo i with
  | none => rw [hq] at h; cases h
  | some v =>
    rw [hq] at h
    cases v with
    | int x =>
      intro h1 h2
      obtain ⟨g1, g2, g3⟩ := hk _ _ h h1 h2
      refine ⟨g1, g2, fun al H locs ls w wl wv hl => ?_⟩
      exact lv_iload hx hb d (ev_local hl hq) (g3 al H locs ls w wl (ev_allc (ev_look_ok wl hq) wv) hl)
    | _ => cases h
theorem ok_lload_n {k : Fin 4} {i : Nat} (d : decode cc pc = .ok (.lload_n k, 1)) (hi : (k : Nat) = i) : ev_Ok cc nL hh own Ts Tn Tq cl isI CO pc (a_lload 1 i) := by
  intro p l e R s m args below meth c Q D cs ox A al0 k0 n0 call kont f hs o hs' cx hI hC hR hT hpc h hk
  obtain ⟨pc', lo, st⟩ := f
  cases hpc
  obtain ⟨⟨hx, hb, hml, hown, hts⟩, ⟨hKK, hA, hNw, hZU, hZS, hTq, hNc, hX⟩, hEx, hRc, hRs⟩ := cx
  have h : a_lload 1 i call kont (pc', lo, st) hs = some (o, hs') := h
  unfold a_lload at h
  dsimp only at h
  cases hq : ev_look lo i with
  | none => rw [hq] at h; cases h
  | some v =>
    rw [hq] at h
    cases v with
    | long x =>
      intro h1 h2
      obtain ⟨g1, g2, g3⟩ := hk _ _ h h1 h2
      refine ⟨g1, g2, fun al H locs ls w wl wv hl => ?_⟩
      exact lv_lload_n hx hb d hi (ev_local hl hq) (g3 al H locs ls w wl (ev_allc (ev_look_ok wl hq) wv) hl)
    | _ => cases h
theorem ok_lload {i : Nat} (d : decode cc pc = .ok (.lload i, 2)) : ev_Ok cc nL hh own Ts Tn Tq cl isI CO pc (a_lload 2 i) := by
  intro p l e R s m args below meth c Q D cs ox A al0 k0 n0 call kont f hs o hs' cx hI hC hR hT hpc h hk
  obtain ⟨pc', lo, st⟩ := f
  cases hpc
  obtain ⟨⟨hx, hb, hml, hown, hts⟩, ⟨hKK, hA, hNw, hZU, hZS, hTq, hNc, hX⟩, hEx, hRc, hRs⟩ := cx
  have h : a_lload 2 i call kont (pc', lo, st) hs = some (o, hs') := h
  unfold a_lload at h
  dsimp only at h
  cases hq : ev_look lo i with
  | none => rw [hq] at h; cases h
  | some v =>
    rw [hq] at h
    cases v with
    | long x =>
      intro h1 h2
      obtain ⟨g1, g2, g3⟩ := hk _ _ h h1 h2
      refine ⟨g1, g2, fun al H locs ls w wl wv hl => ?_⟩
      exact lv_lload hx hb d (ev_local hl hq) (g3 al H locs ls w wl (ev_allc (ev_look_ok wl hq) wv) hl)
    | _ => cases h
theorem ok_dload_n {k : Fin 4} {i : Nat} (d : decode cc pc = .ok (.dload_n k, 1)) (hi : (k : Nat) = i) : ev_Ok cc nL hh own Ts Tn Tq cl isI CO pc (a_dload 1 i) := by
  intro p l e R s m args below meth c Q D cs ox A al0 k0 n0 call kont f hs o hs' cx hI hC hR hT hpc h hk
  obtain ⟨pc', lo, st⟩ := f
  cases hpc
  obtain ⟨⟨hx, hb, hml, hown, hts⟩, ⟨hKK, hA, hNw, hZU, hZS, hTq, hNc, hX⟩, hEx, hRc, hRs⟩ := cx
  have h : a_dload 1 i call kont (pc', lo, st) hs = some (o, hs') := h
  unfold a_dload at h
  dsimp only at h
  cases hq : ev_look lo i with
  | none => rw [hq] at h; cases h
  | some v =>
    rw [hq] at h
    cases v with
    | double x =>
      intro h1 h2
      obtain ⟨g1, g2, g3⟩ := hk _ _ h h1 h2
      refine ⟨g1, g2, fun al H locs ls w wl wv hl => ?_⟩
      exact lv_dload_n hx hb d hi (ev_local hl hq) (g3 al H locs ls w wl (ev_allc (ev_look_ok wl hq) wv) hl)
    | _ => cases h
theorem ok_dload {i : Nat} (d : decode cc pc = .ok (.dload i, 2)) : ev_Ok cc nL hh own Ts Tn Tq cl isI CO pc (a_dload 2 i) := by
  intro p l e R s m args below meth c Q D cs ox A al0 k0 n0 call kont f hs o hs' cx hI hC hR hT hpc h hk
  obtain ⟨pc', lo, st⟩ := f
  cases hpc
  obtain ⟨⟨hx, hb, hml, hown, hts⟩, ⟨hKK, hA, hNw, hZU, hZS, hTq, hNc, hX⟩, hEx, hRc, hRs⟩ := cx
  have h : a_dload 2 i call kont (pc', lo, st) hs = some (o, hs') := h
  unfold a_dload at h
  dsimp only at h
  cases hq : ev_look lo i with
  | none => rw [hq] at h; cases h
  | some v =>
    rw [hq] at h
    cases v with
    | double x =>
      intro h1 h2
      obtain ⟨g1, g2, g3⟩ := hk _ _ h h1 h2
      refine ⟨g1, g2, fun al H locs ls w wl wv hl => ?_⟩
      exact lv_dload hx hb d (ev_local hl hq) (g3 al H locs ls w wl (ev_allc (ev_look_ok wl hq) wv) hl)
    | _ => cases h
theorem ok_aload_n {k : Fin 4} {i : Nat} (d : decode cc pc = .ok (.aload_n k, 1)) (hi : (k : Nat) = i) : ev_Ok cc nL hh own Ts Tn Tq cl isI CO pc (a_aload 1 i) := by
  intro p l e R s m args below meth c Q D cs ox A al0 k0 n0 call kont f hs o hs' cx hI hC hR hT hpc h hk
  obtain ⟨pc', lo, st⟩ := f
  cases hpc
  obtain ⟨⟨hx, hb, hml, hown, hts⟩, ⟨hKK, hA, hNw, hZU, hZS, hTq, hNc, hX⟩, hEx, hRc, hRs⟩ := cx
  have h : a_aload 1 i call kont (pc', lo, st) hs = some (o, hs') := h
  unfold a_aload at h
  dsimp only at h
  cases hq : ev_look lo i with
  | none => rw [hq] at h; cases h
  | some v =>
    rw [hq] at h
    cases v with
    | ref x =>
      intro h1 h2
      obtain ⟨g1, g2, g3⟩ := hk _ _ h h1 h2
      refine ⟨g1, g2, fun al H locs ls w wl wv hl => ?_⟩
      exact lv_aload_n hx hb d hi (ev_local hl hq) (g3 al H locs ls w wl (ev_allc (ev_look_ok wl hq) wv) hl)
    | float x =>
      intro h1 h2
      obtain ⟨g1, g2, g3⟩ := hk _ _ h h1 h2
      refine ⟨g1, g2, fun al H locs ls w wl wv hl => ?_⟩
      exact lv_aload_n hx hb d hi (ev_local hl hq) (g3 al H locs ls w wl (ev_allc (ev_look_ok wl hq) wv) hl)
    | _ => cases h
theorem ok_aload {i : Nat} (d : decode cc pc = .ok (.aload i, 2)) : ev_Ok cc nL hh own Ts Tn Tq cl isI CO pc (a_aload 2 i) := by
  intro p l e R s m args below meth c Q D cs ox A al0 k0 n0 call kont f hs o hs' cx hI hC hR hT hpc h hk
  obtain ⟨pc', lo, st⟩ := f
  cases hpc
  obtain ⟨⟨hx, hb, hml, hown, hts⟩, ⟨hKK, hA, hNw, hZU, hZS, hTq, hNc, hX⟩, hEx, hRc, hRs⟩ := cx
  have h : a_aload 2 i call kont (pc', lo, st) hs = some (o, hs') := h
  unfold a_aload at h
  dsimp only at h
  cases hq : ev_look lo i with
  | none => rw [hq] at h; cases h
  | some v =>
    rw [hq] at h
    cases v with
    | ref x =>
      intro h1 h2
      obtain ⟨g1, g2, g3⟩ := hk _ _ h h1 h2
      refine ⟨g1, g2, fun al H locs ls w wl wv hl => ?_⟩
      exact lv_aload hx hb d (ev_local hl hq) (g3 al H locs ls w wl (ev_allc (ev_look_ok wl hq) wv) hl)
    | float x =>
      intro h1 h2
      obtain ⟨g1, g2, g3⟩ := hk _ _ h h1 h2
      refine ⟨g1, g2, fun al H locs ls w wl wv hl => ?_⟩
      exact lv_aload hx hb d (ev_local hl hq) (g3 al H locs ls w wl (ev_allc (ev_look_ok wl hq) wv) hl)
    | _ => cases h
theorem ok_istore_n {k : Fin 4} {i : Nat} (d : decode cc pc = .ok (.istore_n k, 1)) (hi : (k : Nat) = i) : ev_Ok cc nL hh own Ts Tn Tq cl isI CO pc (a_istore nL 1 i) := by
  intro p l e R s m args below meth c Q D cs ox A al0 k0 n0 call kont f hs o hs' cx hI hC hR hT hpc h hk
  obtain ⟨pc', lo, st⟩ := f
  cases hpc
  obtain ⟨⟨hx, hb, hml, hown, hts⟩, ⟨hKK, hA, hNw, hZU, hZS, hTq, hNc, hX⟩, hEx, hRc, hRs⟩ := cx
  match st, h with
  | .int x :: st, h =>
    have h : (if i < nL then kont (pc' + 1, ev_st1 lo i (.int x), st) hs else none) = some (o, hs') := h
    by_cases q : i < nL
    · rw [if_pos q] at h
      intro h1 h2
      obtain ⟨g1, g2, g3⟩ := hk _ _ h h1 h2
      refine ⟨g1, g2, fun al H locs ls w wl wv hl => ?_⟩
      exact lv_istore_n (lv' := (ev_st1 lo i (.int x)).map (fun q : Nat × Value => (q.1, ev_rv ox al q.2))) hx hb d hi hl q (ev_st1_eq ox al i lo (.int x)) (fun ls' hl' => g3 al H locs ls' w (ev_st1_ok wl (ev_hd wv)) (ev_tl wv) hl')
    · rw [if_neg q] at h; cases h
theorem ok_istore {i : Nat} (d : decode cc pc = .ok (.istore i, 2)) : ev_Ok cc nL hh own Ts Tn Tq cl isI CO pc (a_istore nL 2 i) := by
  intro p l e R s m args below meth c Q D cs ox A al0 k0 n0 call kont f hs o hs' cx hI hC hR hT hpc h hk
  obtain ⟨pc', lo, st⟩ := f
  cases hpc
  obtain ⟨⟨hx, hb, hml, hown, hts⟩, ⟨hKK, hA, hNw, hZU, hZS, hTq, hNc, hX⟩, hEx, hRc, hRs⟩ := cx
  match st, h with
  | .int x :: st, h =>
    have h : (if i < nL then kont (pc' + 2, ev_st1 lo i (.int x), st) hs else none) = some (o, hs') := h
    by_cases q : i < nL
    · rw [if_pos q] at h
      intro h1 h2
      obtain ⟨g1, g2, g3⟩ := hk _ _ h h1 h2
      refine ⟨g1, g2, fun al H locs ls w wl wv hl => ?_⟩
      exact lv_istore (lv' := (ev_st1 lo i (.int x)).map (fun q : Nat × Value => (q.1, ev_rv ox al q.2))) hx hb d hl q (ev_st1_eq ox al i lo (.int x)) (fun ls' hl' => g3 al H locs ls' w (ev_st1_ok wl (ev_hd wv)) (ev_tl wv) hl')
    · rw [if_neg q] at h; cases h
theorem ok_lstore_n {k : Fin 4} {i : Nat} (d : decode cc pc = .ok (.lstore_n k, 1)) (hi : (k : Nat) = i) : ev_Ok cc nL hh own Ts Tn Tq cl isI CO pc (a_lstore nL 1 i) := by
  intro p l e R s m args below meth c Q D cs ox A al0 k0 n0 call kont f hs o hs' cx hI hC hR hT hpc h hk
  obtain ⟨pc', lo, st⟩ := f
  cases hpc
  obtain ⟨⟨hx, hb, hml, hown, hts⟩, ⟨hKK, hA, hNw, hZU, hZS, hTq, hNc, hX⟩, hEx, hRc, hRs⟩ := cx
  match st, h with
  | .long x :: st, h =>
    have h : (if i + 1 < nL then kont (pc' + 1, ev_st2 lo i (.long x), st) hs else none) = some (o, hs') := h
    by_cases q : i + 1 < nL
    · rw [if_pos q] at h
      intro h1 h2
      obtain ⟨g1, g2, g3⟩ := hk _ _ h h1 h2
      refine ⟨g1, g2, fun al H locs ls w wl wv hl => ?_⟩
      exact lv_lstore_n (lv' := (ev_st2 lo i (.long x)).map (fun q : Nat × Value => (q.1, ev_rv ox al q.2))) hx hb d hi hl q (ev_st2_eq ox al i lo (.long x)) (fun ls' hl' => g3 al H locs ls' w (ev_st2_ok wl (ev_hd wv)) (ev_tl wv) hl')
    · rw [if_neg q] at h; cases h
theorem ok_lstore {i : Nat} (d : decode cc pc = .ok (.lstore i, 2)) : ev_Ok cc nL hh own Ts Tn Tq cl isI CO pc (a_lstore nL 2 i) := by
  intro p l e R s m args below meth c Q D cs ox A al0 k0 n0 call kont f hs o hs' cx hI hC hR hT hpc h hk
  obtain ⟨pc', lo, st⟩ := f
  cases hpc
  obtain ⟨⟨hx, hb, hml, hown, hts⟩, ⟨hKK, hA, hNw, hZU, hZS, hTq, hNc, hX⟩, hEx, hRc, hRs⟩ := cx
  match st, h with
  | .long x :: st, h =>
    have h : (if i + 1 < nL then kont (pc' + 2, ev_st2 lo i (.long x), st) hs else none) = some (o, hs') := h
    by_cases q : i + 1 < nL
    · rw [if_pos q] at h
      intro h1 h2
      obtain ⟨g1, g2, g3⟩ := hk _ _ h h1 h2
      refine ⟨g1, g2, fun al H locs ls w wl wv hl => ?_⟩
      exact lv_lstore (lv' := (ev_st2 lo i (.long x)).map (fun q : Nat × Value => (q.1, ev_rv ox al q.2))) hx hb d hl q (ev_st2_eq ox al i lo (.long x)) (fun ls' hl' => g3 al H locs ls' w (ev_st2_ok wl (ev_hd wv)) (ev_tl wv) hl')
    · rw [if_neg q] at h; cases h
theorem ok_dstore_n {k : Fin 4} {i : Nat} (d : decode cc pc = .ok (.dstore_n k, 1)) (hi : (k : Nat) = i) : ev_Ok cc nL hh own Ts Tn Tq cl isI CO pc (a_dstore nL 1 i) := by
  intro p l e R s m args below meth c Q D cs ox A al0 k0 n0 call kont f hs o hs' cx hI hC hR hT hpc h hk
  obtain ⟨pc', lo, st⟩ := f
  cases hpc
  obtain ⟨⟨hx, hb, hml, hown, hts⟩, ⟨hKK, hA, hNw, hZU, hZS, hTq, hNc, hX⟩, hEx, hRc, hRs⟩ := cx
  match st, h with
  | .double x :: st, h =>
    have h : (if i + 1 < nL then kont (pc' + 1, ev_st2 lo i (.double x), st) hs else none) = some (o, hs') := h
    by_cases q : i + 1 < nL
    · rw [if_pos q] at h
      intro h1 h2
      obtain ⟨g1, g2, g3⟩ := hk _ _ h h1 h2
      refine ⟨g1, g2, fun al H locs ls w wl wv hl => ?_⟩
      exact lv_dstore_n (lv' := (ev_st2 lo i (.double x)).map (fun q : Nat × Value => (q.1, ev_rv ox al q.2))) hx hb d hi hl q (ev_st2_eq ox al i lo (.double x)) (fun ls' hl' => g3 al H locs ls' w (ev_st2_ok wl (ev_hd wv)) (ev_tl wv) hl')
    · rw [if_neg q] at h; cases h
theorem ok_dstore {i : Nat} (d : decode cc pc = .ok (.dstore i, 2)) : ev_Ok cc nL hh own Ts Tn Tq cl isI CO pc (a_dstore nL 2 i) := by
  intro p l e R s m args below meth c Q D cs ox A al0 k0 n0 call kont f hs o hs' cx hI hC hR hT hpc h hk
  obtain ⟨pc', lo, st⟩ := f
  cases hpc
  obtain ⟨⟨hx, hb, hml, hown, hts⟩, ⟨hKK, hA, hNw, hZU, hZS, hTq, hNc, hX⟩, hEx, hRc, hRs⟩ := cx
  match st, h with
  | .double x :: st, h =>
    have h : (if i + 1 < nL then kont (pc' + 2, ev_st2 lo i (.double x), st) hs else none) = some (o, hs') := h
    by_cases q : i + 1 < nL
    · rw [if_pos q] at h
      intro h1 h2
      obtain ⟨g1, g2, g3⟩ := hk _ _ h h1 h2
      refine ⟨g1, g2, fun al H locs ls w wl wv hl => ?_⟩
      exact lv_dstore (lv' := (ev_st2 lo i (.double x)).map (fun q : Nat × Value => (q.1, ev_rv ox al q.2))) hx hb d hl q (ev_st2_eq ox al i lo (.double x)) (fun ls' hl' => g3 al H locs ls' w (ev_st2_ok wl (ev_hd wv)) (ev_tl wv) hl')
    · rw [if_neg q] at h; cases h
theorem ok_astore_n {k : Fin 4} {i : Nat} (d : decode cc pc = .ok (.astore_n k, 1)) (hi : (k : Nat) = i) : ev_Ok cc nL hh own Ts Tn Tq cl isI CO pc (a_astore nL 1 i) := by
  intro p l e R s m args below meth c Q D cs ox A al0 k0 n0 call kont f hs o hs' cx hI hC hR hT hpc h hk
  obtain ⟨pc', lo, st⟩ := f
  cases hpc
  obtain ⟨⟨hx, hb, hml, hown, hts⟩, ⟨hKK, hA, hNw, hZU, hZS, hTq, hNc, hX⟩, hEx, hRc, hRs⟩ := cx
  match st, h with
  | .ref x :: st, h =>
    have h : (if i < nL then kont (pc' + 1, ev_st1 lo i (.ref x), st) hs else none) = some (o, hs') := h
    by_cases q : i < nL
    · rw [if_pos q] at h
      intro h1 h2
      obtain ⟨g1, g2, g3⟩ := hk _ _ h h1 h2
      refine ⟨g1, g2, fun al H locs ls w wl wv hl => ?_⟩
      exact lv_astore_n (lv' := (ev_st1 lo i (.ref x)).map (fun q : Nat × Value => (q.1, ev_rv ox al q.2))) hx hb d hi hl q (ev_st1_eq ox al i lo (.ref x)) (fun ls' hl' => g3 al H locs ls' w (ev_st1_ok wl (ev_hd wv)) (ev_tl wv) hl')
    · rw [if_neg q] at h; cases h
  | .float x :: st, h =>
    have h : (if i < nL then kont (pc' + 1, ev_st1 lo i (.float x), st) hs else none) = some (o, hs') := h
    by_cases q : i < nL
    · rw [if_pos q] at h
      intro h1 h2
      obtain ⟨g1, g2, g3⟩ := hk _ _ h h1 h2
      refine ⟨g1, g2, fun al H locs ls w wl wv hl => ?_⟩
      exact lv_astore_n (lv' := (ev_st1 lo i (.float x)).map (fun q : Nat × Value => (q.1, ev_rv ox al q.2))) hx hb d hi hl q (ev_st1_eq ox al i lo (.float x)) (fun ls' hl' => g3 al H locs ls' w (ev_st1_ok wl (ev_hd wv)) (ev_tl wv) hl')
    · rw [if_neg q] at h; cases h
theorem ok_astore {i : Nat} (d : decode cc pc = .ok (.astore i, 2)) : ev_Ok cc nL hh own Ts Tn Tq cl isI CO pc (a_astore nL 2 i) := by
  intro p l e R s m args below meth c Q D cs ox A al0 k0 n0 call kont f hs o hs' cx hI hC hR hT hpc h hk
  obtain ⟨pc', lo, st⟩ := f
  cases hpc
  obtain ⟨⟨hx, hb, hml, hown, hts⟩, ⟨hKK, hA, hNw, hZU, hZS, hTq, hNc, hX⟩, hEx, hRc, hRs⟩ := cx
  match st, h with
  | .ref x :: st, h =>
    have h : (if i < nL then kont (pc' + 2, ev_st1 lo i (.ref x), st) hs else none) = some (o, hs') := h
    by_cases q : i < nL
    · rw [if_pos q] at h
      intro h1 h2
      obtain ⟨g1, g2, g3⟩ := hk _ _ h h1 h2
      refine ⟨g1, g2, fun al H locs ls w wl wv hl => ?_⟩
      exact lv_astore (lv' := (ev_st1 lo i (.ref x)).map (fun q : Nat × Value => (q.1, ev_rv ox al q.2))) hx hb d hl q (ev_st1_eq ox al i lo (.ref x)) (fun ls' hl' => g3 al H locs ls' w (ev_st1_ok wl (ev_hd wv)) (ev_tl wv) hl')
    · rw [if_neg q] at h; cases h
  | .float x :: st, h =>
    have h : (if i < nL then kont (pc' + 2, ev_st1 lo i (.float x), st) hs else none) = some (o, hs') := h
    by_cases q : i < nL
    · rw [if_pos q] at h
      intro h1 h2
      obtain ⟨g1, g2, g3⟩ := hk _ _ h h1 h2
      refine ⟨g1, g2, fun al H locs ls w wl wv hl => ?_⟩
      exact lv_astore (lv' := (ev_st1 lo i (.float x)).map (fun q : Nat × Value => (q.1, ev_rv ox al q.2))) hx hb d hl q (ev_st1_eq ox al i lo (.float x)) (fun ls' hl' => g3 al H locs ls' w (ev_st1_ok wl (ev_hd wv)) (ev_tl wv) hl')
    · rw [if_neg q] at h; cases h
theorem ok_iinc {i : Nat} {n : Int} {dd : Int32} (d : decode cc pc = .ok (.iinc i n, 3)) (hd : Int32.ofInt n = dd) : ev_Ok cc nL hh own Ts Tn Tq cl isI CO pc (a_iinc nL i dd) := by
  intro p l e R s m args below meth c Q D cs ox A al0 k0 n0 call kont f hs o hs' cx hI hC hR hT hpc h hk
  obtain ⟨pc', lo, st⟩ := f
  cases hpc
  obtain ⟨⟨hx, hb, hml, hown, hts⟩, ⟨hKK, hA, hNw, hZU, hZS, hTq, hNc, hX⟩, hEx, hRc, hRs⟩ := cx
  have h : a_iinc nL i dd call kont (pc', lo, st) hs = some (o, hs') := h
  unfold a_iinc at h
  dsimp only at h
  cases hq : ev_look lo i with
  | none => rw [hq] at h; cases h
  | some v =>
    rw [hq] at h
    cases v with
    | int x =>
      dsimp only at h
      by_cases q : i < nL
      · rw [if_pos q] at h
        intro h1 h2
        obtain ⟨g1, g2, g3⟩ := hk _ _ h h1 h2
        refine ⟨g1, g2, fun al H locs ls w wl wv hl => ?_⟩
        have hm : (i, Value.int x) ∈ lo.map (fun q : Nat × Value => (q.1, ev_rv ox al q.2)) := List.mem_map.mpr ⟨(i, .int x), ev_look_mem lo i _ hq, rfl⟩
        obtain ⟨k, hk2⟩ := List.getElem?_of_mem hm
        exact lv_iinc (v := x + dd) (lv' := (ev_st1 lo i (.int (x + dd))).map (fun q : Nat × Value => (q.1, ev_rv ox al q.2))) hx hb d hl (k := k) hk2 (by rw [hd]) q (ev_st1_eq ox al i lo (.int (x + dd))) (fun ls' hl' => g3 al H locs ls' w (ev_st1_ok wl trivial) wv hl')
      · rw [if_neg q] at h; cases h
    | _ => cases h
theorem ok_dup (d : decode cc pc = .ok (.dup, 1)) : ev_Ok cc nL hh own Ts Tn Tq cl isI CO pc a_dup := by
  intro p l e R s m args below meth c Q D cs ox A al0 k0 n0 call kont f hs o hs' cx hI hC hR hT hpc h hk
  obtain ⟨pc', lo, st⟩ := f
  cases hpc
  obtain ⟨⟨hx, hb, hml, hown, hts⟩, ⟨hKK, hA, hNw, hZU, hZS, hTq, hNc, hX⟩, hEx, hRc, hRs⟩ := cx
  match st, h with
  | v :: st, h =>
    have h : (if v.category = 1 then kont (pc' + 1, lo, v :: v :: st) hs else none) = some (o, hs') := h
    by_cases q : v.category = 1
    · rw [if_pos q] at h
      intro h1 h2
      obtain ⟨g1, g2, g3⟩ := hk _ _ h h1 h2
      refine ⟨g1, g2, fun al H locs ls w wl wv hl => ?_⟩
      exact lv_dup hx hb d ((ev_rv_cat _ _ _).trans q) (g3 al H locs ls w wl (ev_allc (ev_hd wv) wv) hl)
    · rw [if_neg q] at h; cases h
theorem ok_pop (d : decode cc pc = .ok (.pop, 1)) : ev_Ok cc nL hh own Ts Tn Tq cl isI CO pc a_pop := by
  intro p l e R s m args below meth c Q D cs ox A al0 k0 n0 call kont f hs o hs' cx hI hC hR hT hpc h hk
  obtain ⟨pc', lo, st⟩ := f
  cases hpc
  obtain ⟨⟨hx, hb, hml, hown, hts⟩, ⟨hKK, hA, hNw, hZU, hZS, hTq, hNc, hX⟩, hEx, hRc, hRs⟩ := cx
  match st, h with
  | v :: st, h =>
    have h : (if v.category = 1 then kont (pc' + 1, lo, st) hs else none) = some (o, hs') := h
    by_cases q : v.category = 1
    · rw [if_pos q] at h
      intro h1 h2
      obtain ⟨g1, g2, g3⟩ := hk _ _ h h1 h2
      refine ⟨g1, g2, fun al H locs ls w wl wv hl => ?_⟩
      exact lv_pop hx hb d ((ev_rv_cat ox al v).trans q) (g3 al H locs ls w wl (ev_tl wv) hl)
    · rw [if_neg q] at h; cases h
theorem ok_dup_x1 (d : decode cc pc = .ok (.dup_x1, 1)) : ev_Ok cc nL hh own Ts Tn Tq cl isI CO pc a_dupx1 := by
  intro p l e R s m args below meth c Q D cs ox A al0 k0 n0 call kont f hs o hs' cx hI hC hR hT hpc h hk
  obtain ⟨pc', lo, st⟩ := f
  cases hpc
  obtain ⟨⟨hx, hb, hml, hown, hts⟩, ⟨hKK, hA, hNw, hZU, hZS, hTq, hNc, hX⟩, hEx, hRc, hRs⟩ := cx
  match st, h with
  | v :: u :: st, h =>
    have h : (if v.category = 1 ∧ u.category = 1 then kont (pc' + 1, lo, v :: u :: v :: st) hs else none) = some (o, hs') := h
    by_cases q : v.category = 1 ∧ u.category = 1
    · rw [if_pos q] at h
      intro h1 h2
      obtain ⟨g1, g2, g3⟩ := hk _ _ h h1 h2
      refine ⟨g1, g2, fun al H locs ls w wl wv hl => ?_⟩
      exact lv_dup_x1 hx hb d ((ev_rv_cat _ _ _).trans q.1) ((ev_rv_cat _ _ _).trans q.2) (g3 al H locs ls w wl (ev_allc (ev_hd wv) (ev_allc (ev_hd (ev_tl wv)) (ev_allc (ev_hd wv) (ev_tl (ev_tl wv))))) hl)
    · rw [if_neg q] at h; cases h
theorem ok_dup_x2 (d : decode cc pc = .ok (.dup_x2, 1)) : ev_Ok cc nL hh own Ts Tn Tq cl isI CO pc a_dupx2 := by
  intro p l e R s m args below meth c Q D cs ox A al0 k0 n0 call kont f hs o hs' cx hI hC hR hT hpc h hk
  obtain ⟨pc', lo, st⟩ := f
  cases hpc
  obtain ⟨⟨hx, hb, hml, hown, hts⟩, ⟨hKK, hA, hNw, hZU, hZS, hTq, hNc, hX⟩, hEx, hRc, hRs⟩ := cx
  match st, h with
  | v :: u :: t :: st, h =>
    have h : (if v.category = 1 ∧ u.category = 1 ∧ t.category = 1 then kont (pc' + 1, lo, v :: u :: t :: v :: st) hs else none) = some (o, hs') := h
    by_cases q : v.category = 1 ∧ u.category = 1 ∧ t.category = 1
    · rw [if_pos q] at h
      intro h1 h2
      obtain ⟨g1, g2, g3⟩ := hk _ _ h h1 h2
      refine ⟨g1, g2, fun al H locs ls w wl wv hl => ?_⟩
      exact lv_dup_x2 hx hb d ((ev_rv_cat _ _ _).trans q.1) ((ev_rv_cat _ _ _).trans q.2.1) ((ev_rv_cat _ _ _).trans q.2.2) (g3 al H locs ls w wl (ev_allc (ev_hd wv) (ev_allc (ev_hd (ev_tl wv)) (ev_allc (ev_hd (ev_tl (ev_tl wv))) (ev_allc (ev_hd wv) (ev_tl (ev_tl (ev_tl wv))))))) hl)
    · rw [if_neg q] at h; cases h
theorem ok_dup2 (d : decode cc pc = .ok (.dup2, 1)) : ev_Ok cc nL hh own Ts Tn Tq cl isI CO pc a_dup2 := by
  intro p l e R s m args below meth c Q D cs ox A al0 k0 n0 call kont f hs o hs' cx hI hC hR hT hpc h hk
  obtain ⟨pc', lo, st⟩ := f
  cases hpc
  obtain ⟨⟨hx, hb, hml, hown, hts⟩, ⟨hKK, hA, hNw, hZU, hZS, hTq, hNc, hX⟩, hEx, hRc, hRs⟩ := cx
  match st, h with
  | v :: u :: st, h =>
    have h : (if v.category = 1 ∧ u.category = 1 then kont (pc' + 1, lo, v :: u :: v :: u :: st) hs else none) = some (o, hs') := h
    by_cases q : v.category = 1 ∧ u.category = 1
    · rw [if_pos q] at h
      intro h1 h2
      obtain ⟨g1, g2, g3⟩ := hk _ _ h h1 h2
      refine ⟨g1, g2, fun al H locs ls w wl wv hl => ?_⟩
      exact lv_dup2_11 hx hb d ((ev_rv_cat _ _ _).trans q.1) ((ev_rv_cat _ _ _).trans q.2) (g3 al H locs ls w wl (ev_allc (ev_hd wv) (ev_allc (ev_hd (ev_tl wv)) wv)) hl)
    · rw [if_neg q] at h; cases h
theorem ok_getfield {C : String} {T : u_T} {N index ci kf : Nat} (d : decode cc pc = .ok (.getfield index, 3)) (hc : cl[ci]? = some (C, T, N)) (hin : ∀ w ∈ u_ws C T N, w ∈ Ts) (hkf : kf < N) (hw : Cond.fieldLink own index (T kf).1 (T kf).2.1 (T kf).2.2.1 ∈ Ts) : ev_Ok cc nL hh own Ts Tn Tq cl isI CO pc (a_getf ci kf) := by
  intro p l e R s m args below meth c Q D cs ox A al0 k0 n0 call kont f hs o hs' cx hI hC hR hT hpc h hk
  obtain ⟨pc', lo, st⟩ := f
  cases hpc
  obtain ⟨⟨hx, hb, hml, hown, hts⟩, ⟨hKK, hA, hNw, hZU, hZS, hTq, hNc, hX⟩, hEx, hRc, hRs⟩ := cx
  have h : (a_getf ci kf) call kont (pc', lo, st) hs = some (o, hs') := h
  match st, h with
  | .ref a :: st, h =>
    unfold a_getf at h
    dsimp only at h
    cases hq : hs.1[a]? with
    | none => rw [hq] at h; cases h
    | some e0 =>
      rw [hq] at h
      obtain ⟨t0, fs⟩ := e0
      cases t0 with
      | inl t => cases h
      | inr cx =>
        dsimp only at h
        cases hb2 : Nat.beq cx ci with
        | false => rw [hb2] at h; cases h
        | true =>
          rw [hb2] at h
          cases Nat.eq_of_beq_eq_true hb2
          dsimp only [cond_true] at h
          cases hv : fs[kf]? with
          | none => rw [hv] at h; cases h
          | some v =>
            rw [hv] at h
            intro h1 h2
            obtain ⟨g1, g2, g3⟩ := hk _ _ h h1 h2
            refine ⟨g1, g2, fun al H locs ls w wl wv hl => ?_⟩
            have he := ev_w_get (cs := cs) (ox := ox) w.2.1 hq
            exact va_get hx hb hts hin hown hKK w.2.2.1 a (fs := fs.map (ev_rv ox al)) he hc kf hkf (hts _ hw) (fun x h => h) (v := ev_rv ox al v) (by rw [List.getElem?_map, hv]; rfl) d (g3 al H locs ls w wl (ev_allc (w.2.2.2.2.2 _ (List.mem_of_getElem? hq) v (List.mem_of_getElem? hv)) (ev_tl wv)) hl)
theorem ok_getfieldN {C : String} {T : u_T} {N index ci kf : Nat} (d : decode cc pc = .ok (.getfield index, 3)) (hc : cl[ci]? = some (C, T, N)) (hin : ∀ w ∈ u_ws C T N, w ∈ Ts) (hkf : kf < N) {host : String} (hw : Cond.fieldLinkNest own index (T kf).1 (T kf).2.1 (T kf).2.2.1 host ∈ Tn) : ev_Ok cc nL hh own Ts Tn Tq cl isI CO pc (a_getf ci kf) := by
  intro p l e R s m args below meth c Q D cs ox A al0 k0 n0 call kont f hs o hs' cx hI hC hR hT hpc h hk
  obtain ⟨pc', lo, st⟩ := f
  cases hpc
  obtain ⟨⟨hx, hb, hml, hown, hts⟩, ⟨hKK, hA, hNw, hZU, hZS, hTq, hNc, hX⟩, hEx, hRc, hRs⟩ := cx
  have h : (a_getf ci kf) call kont (pc', lo, st) hs = some (o, hs') := h
  match st, h with
  | .ref a :: st, h =>
    unfold a_getf at h
    dsimp only at h
    cases hq : hs.1[a]? with
    | none => rw [hq] at h; cases h
    | some e0 =>
      rw [hq] at h
      obtain ⟨t0, fs⟩ := e0
      cases t0 with
      | inl t => cases h
      | inr cx =>
        dsimp only at h
        cases hb2 : Nat.beq cx ci with
        | false => rw [hb2] at h; cases h
        | true =>
          rw [hb2] at h
          cases Nat.eq_of_beq_eq_true hb2
          dsimp only [cond_true] at h
          cases hv : fs[kf]? with
          | none => rw [hv] at h; cases h
          | some v =>
            rw [hv] at h
            intro h1 h2
            obtain ⟨g1, g2, g3⟩ := hk _ _ h h1 h2
            refine ⟨g1, g2, fun al H locs ls w wl wv hl => ?_⟩
            have he := ev_w_get (cs := cs) (ox := ox) w.2.1 hq
            exact va_getN hx hb hts hin hown hKK w.2.2.1 a (fs := fs.map (ev_rv ox al)) he hc kf hkf (va_Nw.use rfl (hNw _ hw).2) (fun x h => h) (v := ev_rv ox al v) (by rw [List.getElem?_map, hv]; rfl) d (g3 al H locs ls w wl (ev_allc (w.2.2.2.2.2 _ (List.mem_of_getElem? hq) v (List.mem_of_getElem? hv)) (ev_tl wv)) hl)
theorem ok_putfield {C : String} {T : u_T} {N index ci kf : Nat} (d : decode cc pc = .ok (.putfield index, 3)) (hc : cl[ci]? = some (C, T, N)) (hin : ∀ w ∈ u_ws C T N, w ∈ Ts) (hkf : kf < N) {ty : Nat} {ty0 : Nat → FieldType} (hty : ∀ k, k < N → parseFieldDescriptor (T k).2.2.1 = some (ty0 k)) (hnm : ∀ a, a < N → ∀ b, b < N → a ≠ b → (T a).2.1 ≠ (T b).2.1) (htc : ev_tc (ty0 kf) = ty) (hw : Cond.fieldLink own index (T kf).1 (T kf).2.1 (T kf).2.2.1 ∈ Ts) (hfin : (T kf).2.2.2 = false) : ev_Ok cc nL hh own Ts Tn Tq cl isI CO pc (a_putf ty ci kf) := by
  intro p l e R s m args below meth c Q D cs ox A al0 k0 n0 call kont f hs o hs' cx hI hC hR hT hpc h hk
  obtain ⟨pc', lo, st⟩ := f
  cases hpc
  obtain ⟨⟨hx, hb, hml, hown, hts⟩, ⟨hKK, hA, hNw, hZU, hZS, hTq, hNc, hX⟩, hEx, hRc, hRs⟩ := cx
  have h : (a_putf ty ci kf) call kont (pc', lo, st) hs = some (o, hs') := h
  match st, h with
  | v :: .ref a :: st, h =>
    unfold a_putf at h
    dsimp only at h
    cases hq : hs.1[a]? with
    | none => rw [hq] at h; cases h
    | some e0 =>
      rw [hq] at h
      obtain ⟨t0, fs⟩ := e0
      cases t0 with
      | inl t => cases h
      | inr cx =>
        dsimp only at h
        cases hb2 : (Nat.beq cx ci && (ev_fit ty v && decide (kf < fs.length))) with
        | false => rw [hb2] at h; cases h
        | true =>
          rw [hb2] at h
          simp only [Bool.and_eq_true, decide_eq_true_eq] at hb2
          obtain ⟨q1, q2, q3⟩ := hb2
          cases Nat.eq_of_beq_eq_true q1
          dsimp only [cond_true] at h
          intro h1 h2
          obtain ⟨g1, g2, g3⟩ := hk _ _ h h1 h2
          refine ⟨g1, g2, fun al H locs ls w wl wv hl => ?_⟩
          have he := ev_w_get (cs := cs) (ox := ox) w.2.1 hq
          have hf := ev_fit_spec ox al (ty0 kf) (v := v) (by rw [htc]; exact q2)
          have hset : (ev_w cs ox al hs.1).set a (al.getD a 0, .inr (ci, (fs.map (ev_rv ox al)).set kf (ev_rv ox al v))) = ev_w cs ox al (hs.1.set a (.inr ci, fs.set kf v)) := by
            rw [← ev_w_set w.2.1 a (.inr ci, fs.set kf v)]
            show _ = (ev_w cs ox al hs.1).set a (al.getD a 0, .inr (ci, (fs.set kf v).map (ev_rv ox al)))
            rw [List.map_set]
          refine va_put hx hb hts hin ty0 hty hnm hown hKK w.2.2.1 w.2.2.2.1 w.2.2.2.2.1 a (fs := fs.map (ev_rv ox al)) he hc kf hkf (hts _ hw) (fun x h => h) hfin (hty kf hkf) hf.1 hf.2 (by rw [List.length_map]; exact q3) d (fun H1 locs1 hP1 hD1 hS1 => ?_)
          rw [hset] at hP1 hD1
          exact g3 al H1 locs1 ls ⟨w.1, by rw [List.length_set]; exact w.2.1, hP1, hD1, hS1, ev_wf_set w.2.2.2.2.2 (ev_mem_set (w.2.2.2.2.2 _ (List.mem_of_getElem? hq)) (ev_hd wv))⟩ (by dsimp only; rw [List.length_set]; exact wl) (by dsimp only; rw [List.length_set]; exact ev_tl (ev_tl wv)) hl
theorem ok_putfieldF {C : String} {T : u_T} {N index ci kf : Nat} (d : decode cc pc = .ok (.putfield index, 3)) (hc : cl[ci]? = some (C, T, N)) (hin : ∀ w ∈ u_ws C T N, w ∈ Ts) (hkf : kf < N) {ty : Nat} {ty0 : Nat → FieldType} (hty : ∀ k, k < N → parseFieldDescriptor (T k).2.2.1 = some (ty0 k)) (hnm : ∀ a, a < N → ∀ b, b < N → a ≠ b → (T a).2.1 ≠ (T b).2.1) (htc : ev_tc (ty0 kf) = ty) (hw : Cond.fieldLink own index (T kf).1 (T kf).2.1 (T kf).2.2.1 ∈ Ts) (hfin : (T kf).2.2.2 = true) (hi2 : isI = true) (hdl : (T kf).1 = own) : ev_Ok cc nL hh own Ts Tn Tq cl isI CO pc (a_putf ty ci kf) := by
  intro p l e R s m args below meth c Q D cs ox A al0 k0 n0 call kont f hs o hs' cx hI hC hR hT hpc h hk
  obtain ⟨pc', lo, st⟩ := f
  cases hpc
  obtain ⟨⟨hx, hb, hml, hown, hts⟩, ⟨hKK, hA, hNw, hZU, hZS, hTq, hNc, hX⟩, hEx, hRc, hRs⟩ := cx
  have h : (a_putf ty ci kf) call kont (pc', lo, st) hs = some (o, hs') := h
  match st, h with
  | v :: .ref a :: st, h =>
    unfold a_putf at h
    dsimp only at h
    cases hq : hs.1[a]? with
    | none => rw [hq] at h; cases h
    | some e0 =>
      rw [hq] at h
      obtain ⟨t0, fs⟩ := e0
      cases t0 with
      | inl t => cases h
      | inr cx =>
        dsimp only at h
        cases hb2 : (Nat.beq cx ci && (ev_fit ty v && decide (kf < fs.length))) with
        | false => rw [hb2] at h; cases h
        | true =>
          rw [hb2] at h
          simp only [Bool.and_eq_true, decide_eq_true_eq] at hb2
          obtain ⟨q1, q2, q3⟩ := hb2
          cases Nat.eq_of_beq_eq_true q1
          dsimp only [cond_true] at h
          intro h1 h2
          obtain ⟨g1, g2, g3⟩ := hk _ _ h h1 h2
          refine ⟨g1, g2, fun al H locs ls w wl wv hl => ?_⟩
          have he := ev_w_get (cs := cs) (ox := ox) w.2.1 hq
          have hf := ev_fit_spec ox al (ty0 kf) (v := v) (by rw [htc]; exact q2)
          have hset : (ev_w cs ox al hs.1).set a (al.getD a 0, .inr (ci, (fs.map (ev_rv ox al)).set kf (ev_rv ox al v))) = ev_w cs ox al (hs.1.set a (.inr ci, fs.set kf v)) := by
            rw [← ev_w_set w.2.1 a (.inr ci, fs.set kf v)]
            show _ = (ev_w cs ox al hs.1).set a (al.getD a 0, .inr (ci, (fs.set kf v).map (ev_rv ox al)))
            rw [List.map_set]
          refine va_putF hx hb hts hin ty0 hty hnm hown hKK w.2.2.1 w.2.2.2.1 w.2.2.2.2.1 a (fs := fs.map (ev_rv ox al)) he hc kf hkf (hts _ hw) (fun x h => h) hfin (hI hi2) hdl (hty kf hkf) hf.1 hf.2 (by rw [List.length_map]; exact q3) d (fun H1 locs1 hP1 hD1 hS1 => ?_)
          rw [hset] at hP1 hD1
          exact g3 al H1 locs1 ls ⟨w.1, by rw [List.length_set]; exact w.2.1, hP1, hD1, hS1, ev_wf_set w.2.2.2.2.2 (ev_mem_set (w.2.2.2.2.2 _ (List.mem_of_getElem? hq)) (ev_hd wv))⟩ (by dsimp only; rw [List.length_set]; exact wl) (by dsimp only; rw [List.length_set]; exact ev_tl (ev_tl wv)) hl
theorem ok_putfieldN {C : String} {T : u_T} {N index ci kf : Nat} (d : decode cc pc = .ok (.putfield index, 3)) (hc : cl[ci]? = some (C, T, N)) (hin : ∀ w ∈ u_ws C T N, w ∈ Ts) (hkf : kf < N) {ty : Nat} {ty0 : Nat → FieldType} (hty : ∀ k, k < N → parseFieldDescriptor (T k).2.2.1 = some (ty0 k)) (hnm : ∀ a, a < N → ∀ b, b < N → a ≠ b → (T a).2.1 ≠ (T b).2.1) (htc : ev_tc (ty0 kf) = ty) {host : String} (hw : Cond.fieldLinkNest own index (T kf).1 (T kf).2.1 (T kf).2.2.1 host ∈ Tn) (hfin : (T kf).2.2.2 = false) : ev_Ok cc nL hh own Ts Tn Tq cl isI CO pc (a_putf ty ci kf) := by
  intro p l e R s m args below meth c Q D cs ox A al0 k0 n0 call kont f hs o hs' cx hI hC hR hT hpc h hk
  obtain ⟨pc', lo, st⟩ := f
  cases hpc
  obtain ⟨⟨hx, hb, hml, hown, hts⟩, ⟨hKK, hA, hNw, hZU, hZS, hTq, hNc, hX⟩, hEx, hRc, hRs⟩ := cx
  have h : (a_putf ty ci kf) call kont (pc', lo, st) hs = some (o, hs') := h
  match st, h with
  | v :: .ref a :: st, h =>
    unfold a_putf at h
    dsimp only at h
    cases hq : hs.1[a]? with
    | none => rw [hq] at h; cases h
    | some e0 =>
      rw [hq] at h
      obtain ⟨t0, fs⟩ := e0
      cases t0 with
      | inl t => cases h
      | inr cx =>
        dsimp only at h
        cases hb2 : (Nat.beq cx ci && (ev_fit ty v && decide (kf < fs.length))) with
        | false => rw [hb2] at h; cases h
        | true =>
          rw [hb2] at h
          simp only [Bool.and_eq_true, decide_eq_true_eq] at hb2
          obtain ⟨q1, q2, q3⟩ := hb2
          cases Nat.eq_of_beq_eq_true q1
          dsimp only [cond_true] at h
          intro h1 h2
          obtain ⟨g1, g2, g3⟩ := hk _ _ h h1 h2
          refine ⟨g1, g2, fun al H locs ls w wl wv hl => ?_⟩
          have he := ev_w_get (cs := cs) (ox := ox) w.2.1 hq
          have hf := ev_fit_spec ox al (ty0 kf) (v := v) (by rw [htc]; exact q2)
          have hset : (ev_w cs ox al hs.1).set a (al.getD a 0, .inr (ci, (fs.map (ev_rv ox al)).set kf (ev_rv ox al v))) = ev_w cs ox al (hs.1.set a (.inr ci, fs.set kf v)) := by
            rw [← ev_w_set w.2.1 a (.inr ci, fs.set kf v)]
            show _ = (ev_w cs ox al hs.1).set a (al.getD a 0, .inr (ci, (fs.set kf v).map (ev_rv ox al)))
            rw [List.map_set]
          refine va_putN hx hb hts hin ty0 hty hnm hown hKK w.2.2.1 w.2.2.2.1 w.2.2.2.2.1 a (fs := fs.map (ev_rv ox al)) he hc kf hkf (va_Nw.use rfl (hNw _ hw).2) (fun x h => h) hfin (hty kf hkf) hf.1 hf.2 (by rw [List.length_map]; exact q3) d (fun H1 locs1 hP1 hD1 hS1 => ?_)
          rw [hset] at hP1 hD1
          exact g3 al H1 locs1 ls ⟨w.1, by rw [List.length_set]; exact w.2.1, hP1, hD1, hS1, ev_wf_set w.2.2.2.2.2 (ev_mem_set (w.2.2.2.2.2 _ (List.mem_of_getElem? hq)) (ev_hd wv))⟩ (by dsimp only; rw [List.length_set]; exact wl) (by dsimp only; rw [List.length_set]; exact ev_tl (ev_tl wv)) hl
theorem ok_iaload (d : decode cc pc = .ok (.iaload, 1)) : ev_Ok cc nL hh own Ts Tn Tq cl isI CO pc (a_ild 0) := by
  intro p l e R s m args below meth c Q D cs ox A al0 k0 n0 call kont f hs o hs' cx hI hC hR hT hpc h hk
  obtain ⟨pc', lo, st⟩ := f
  cases hpc
  obtain ⟨⟨hx, hb, hml, hown, hts⟩, ⟨hKK, hA, hNw, hZU, hZS, hTq, hNc, hX⟩, hEx, hRc, hRs⟩ := cx
  have h : (a_ild 0) call kont (pc', lo, st) hs = some (o, hs') := h
  match st, h with
  | .int i :: .ref a :: st, h =>
    unfold a_ild at h
    dsimp only at h
    cases hq : hs.1[a]? with
    | none => rw [hq] at h; cases h
    | some e0 =>
      rw [hq] at h
      obtain ⟨t0, vs⟩ := e0
      cases t0 with
      | inr cx => cases h
      | inl t =>
        dsimp only at h
        cases hb2 : Nat.beq t 0 with
        | false => rw [hb2] at h; cases h
        | true =>
          rw [hb2] at h
          cases Nat.eq_of_beq_eq_true hb2
          dsimp only [cond_true] at h
          cases hv : ev_at vs i with
          | none => rw [hv] at h; cases h
          | some v =>
            rw [hv] at h
            cases v with
            | int x =>
              dsimp only at h
              obtain ⟨n1, n2⟩ := ev_at_spec hv
              intro h1 h2
              obtain ⟨g1, g2, g3⟩ := hk _ _ h h1 h2
              refine ⟨g1, g2, fun al H locs ls w wl wv hl => ?_⟩
              have he := ev_w_get (cs := cs) (ox := ox) w.2.1 hq
              have k3 := g3 al H locs ls w wl (ev_allc trivial (ev_tl (ev_tl wv))) hl
              refine va_iald hx hb hKK w.2.2.1 a 0 (n := vs.length) (f := fun j => ev_i (vs.getD j (.int 0))) he rfl n1 d ?_
              have hx2 : ev_i (vs.getD i.toNatClampNeg (.int 0)) = x := by rw [List.getD_eq_getElem?_getD, n2]; rfl
              show W p l e R s m args below meth c H locs _ _ Q (F0 m _ ls (.int (ev_i (vs.getD i.toNatClampNeg (.int 0))) :: _))
              rw [hx2]
              exact k3
            | _ => cases h
theorem ok_zaload (d : decode cc pc = .ok (.baload, 1)) : ev_Ok cc nL hh own Ts Tn Tq cl isI CO pc (a_ild 1) := by
  intro p l e R s m args below meth c Q D cs ox A al0 k0 n0 call kont f hs o hs' cx hI hC hR hT hpc h hk
  obtain ⟨pc', lo, st⟩ := f
  cases hpc
  obtain ⟨⟨hx, hb, hml, hown, hts⟩, ⟨hKK, hA, hNw, hZU, hZS, hTq, hNc, hX⟩, hEx, hRc, hRs⟩ := cx
  have h : (a_ild 1) call kont (pc', lo, st) hs = some (o, hs') := h
  match st, h with
  | .int i :: .ref a :: st, h =>
    unfold a_ild at h
    dsimp only at h
    cases hq : hs.1[a]? with
    | none => rw [hq] at h; cases h
    | some e0 =>
      rw [hq] at h
      obtain ⟨t0, vs⟩ := e0
      cases t0 with
      | inr cx => cases h
      | inl t =>
        dsimp only at h
        cases hb2 : Nat.beq t 1 with
        | false => rw [hb2] at h; cases h
        | true =>
          rw [hb2] at h
          cases Nat.eq_of_beq_eq_true hb2
          dsimp only [cond_true] at h
          cases hv : ev_at vs i with
          | none => rw [hv] at h; cases h
          | some v =>
            rw [hv] at h
            cases v with
            | int x =>
              dsimp only at h
              obtain ⟨n1, n2⟩ := ev_at_spec hv
              intro h1 h2
              obtain ⟨g1, g2, g3⟩ := hk _ _ h h1 h2
              refine ⟨g1, g2, fun al H locs ls w wl wv hl => ?_⟩
              have he := ev_w_get (cs := cs) (ox := ox) w.2.1 hq
              have k3 := g3 al H locs ls w wl (ev_allc trivial (ev_tl (ev_tl wv))) hl
              refine va_zald hx hb hKK w.2.2.1 a 1 (n := vs.length) (f := fun j => ev_i (vs.getD j (.int 0))) he rfl n1 d ?_
              have hx2 : ev_i (vs.getD i.toNatClampNeg (.int 0)) = x := by rw [List.getD_eq_getElem?_getD, n2]; rfl
              show W p l e R s m args below meth c H locs _ _ Q (F0 m _ ls (.int (ev_i (vs.getD i.toNatClampNeg (.int 0))) :: _))
              rw [hx2]
              exact k3
            | _ => cases h
theorem ok_iastore (d : decode cc pc = .ok (.iastore, 1)) : ev_Ok cc nL hh own Ts Tn Tq cl isI CO pc (a_ist 0) := by
  intro p l e R s m args below meth c Q D cs ox A al0 k0 n0 call kont f hs o hs' cx hI hC hR hT hpc h hk
  obtain ⟨pc', lo, st⟩ := f
  cases hpc
  obtain ⟨⟨hx, hb, hml, hown, hts⟩, ⟨hKK, hA, hNw, hZU, hZS, hTq, hNc, hX⟩, hEx, hRc, hRs⟩ := cx
  have h : (a_ist 0) call kont (pc', lo, st) hs = some (o, hs') := h
  match st, h with
  | .int x :: .int i :: .ref a :: st, h =>
    unfold a_ist at h
    dsimp only at h
    cases hq : hs.1[a]? with
    | none => rw [hq] at h; cases h
    | some e0 =>
      rw [hq] at h
      obtain ⟨t0, vs⟩ := e0
      cases t0 with
      | inr cx => cases h
      | inl t =>
        dsimp only at h
        cases hb2 : (Nat.beq t 0 && ev_fit 0 (.int x)) with
        | false => rw [hb2] at h; cases h
        | true =>
          rw [hb2] at h
          obtain ⟨q1, q2⟩ := Bool.and_eq_true_iff.mp hb2
          cases Nat.eq_of_beq_eq_true q1
          dsimp only [cond_true] at h
          cases hv : ev_at vs i with
          | none => rw [hv] at h; cases h
          | some v =>
            rw [hv] at h
            dsimp only at h
            obtain ⟨n1, n2⟩ := ev_at_spec hv
            intro h1 h2
            obtain ⟨g1, g2, g3⟩ := hk _ _ h h1 h2
            refine ⟨g1, g2, fun al H locs ls w wl wv hl => ?_⟩
            have he := ev_w_get (cs := cs) (ox := ox) w.2.1 hq
            have hset : (ev_w cs ox al hs.1).set a (al.getD a 0, .inl (cs 0, vs.length, .inl (upd (fun j => ev_i (vs.getD j (.int 0))) i.toNatClampNeg x))) = ev_w cs ox al (hs.1.set a (.inl 0, vs.set i.toNatClampNeg (.int x))) := by
              rw [← ev_w_set w.2.1 a (.inl 0, vs.set i.toNatClampNeg (.int x))]
              rw [ev_upd vs i.toNatClampNeg x (List.getElem?_eq_some_iff.mp n2).1]
              show _ = (ev_w cs ox al hs.1).set a (al.getD a 0, .inl (cs 0, ((vs.set i.toNatClampNeg (.int x)).length, _)))
              rw [List.length_set]
              rfl
            refine va_iast hx hb hKK w.2.2.1 w.2.2.2.1 w.2.2.2.2.1 a 0 (n := vs.length) (f := fun j => ev_i (vs.getD j (.int 0))) he rfl n1 d (fun H1 locs1 hP1 hD1 hS1 => ?_)
            rw [hset] at hP1 hD1
            exact g3 al H1 locs1 ls ⟨w.1, by rw [List.length_set]; exact w.2.1, hP1, hD1, hS1, ev_wf_set w.2.2.2.2.2 (ev_mem_set (w.2.2.2.2.2 _ (List.mem_of_getElem? hq)) (ev_hd wv))⟩ (by dsimp only; rw [List.length_set]; exact wl) (by dsimp only; rw [List.length_set]; exact ev_tl (ev_tl (ev_tl wv))) hl
theorem ok_zastore (d : decode cc pc = .ok (.bastore, 1)) : ev_Ok cc nL hh own Ts Tn Tq cl isI CO pc (a_ist 1) := by
  intro p l e R s m args below meth c Q D cs ox A al0 k0 n0 call kont f hs o hs' cx hI hC hR hT hpc h hk
  obtain ⟨pc', lo, st⟩ := f
  cases hpc
  obtain ⟨⟨hx, hb, hml, hown, hts⟩, ⟨hKK, hA, hNw, hZU, hZS, hTq, hNc, hX⟩, hEx, hRc, hRs⟩ := cx
  have h : (a_ist 1) call kont (pc', lo, st) hs = some (o, hs') := h
  match st, h with
  | .int x :: .int i :: .ref a :: st, h =>
    unfold a_ist at h
    dsimp only at h
    cases hq : hs.1[a]? with
    | none => rw [hq] at h; cases h
    | some e0 =>
      rw [hq] at h
      obtain ⟨t0, vs⟩ := e0
      cases t0 with
      | inr cx => cases h
      | inl t =>
        dsimp only at h
        cases hb2 : (Nat.beq t 1 && ev_fit 1 (.int x)) with
        | false => rw [hb2] at h; cases h
        | true =>
          rw [hb2] at h
          obtain ⟨q1, q2⟩ := Bool.and_eq_true_iff.mp hb2
          cases Nat.eq_of_beq_eq_true q1
          dsimp only [cond_true] at h
          cases hv : ev_at vs i with
          | none => rw [hv] at h; cases h
          | some v =>
            rw [hv] at h
            dsimp only at h
            obtain ⟨n1, n2⟩ := ev_at_spec hv
            intro h1 h2
            obtain ⟨g1, g2, g3⟩ := hk _ _ h h1 h2
            refine ⟨g1, g2, fun al H locs ls w wl wv hl => ?_⟩
            have he := ev_w_get (cs := cs) (ox := ox) w.2.1 hq
            have hset : (ev_w cs ox al hs.1).set a (al.getD a 0, .inl (cs 1, vs.length, .inl (upd (fun j => ev_i (vs.getD j (.int 0))) i.toNatClampNeg (vp_nar .boolean x)))) = ev_w cs ox al (hs.1.set a (.inl 1, vs.set i.toNatClampNeg (.int x))) := by
              rw [← ev_w_set w.2.1 a (.inl 1, vs.set i.toNatClampNeg (.int x))]
              rw [ev_nar q2, ev_upd vs i.toNatClampNeg x (List.getElem?_eq_some_iff.mp n2).1]
              show _ = (ev_w cs ox al hs.1).set a (al.getD a 0, .inl (cs 1, ((vs.set i.toNatClampNeg (.int x)).length, _)))
              rw [List.length_set]
              rfl
            refine va_zast hx hb hKK w.2.2.1 w.2.2.2.1 w.2.2.2.2.1 a 1 (n := vs.length) (f := fun j => ev_i (vs.getD j (.int 0))) he rfl n1 d (fun H1 locs1 hP1 hD1 hS1 => ?_)
            rw [hset] at hP1 hD1
            exact g3 al H1 locs1 ls ⟨w.1, by rw [List.length_set]; exact w.2.1, hP1, hD1, hS1, ev_wf_set w.2.2.2.2.2 (ev_mem_set (w.2.2.2.2.2 _ (List.mem_of_getElem? hq)) (ev_hd wv))⟩ (by dsimp only; rw [List.length_set]; exact wl) (by dsimp only; rw [List.length_set]; exact ev_tl (ev_tl (ev_tl wv))) hl
theorem ok_arraylength (d : decode cc pc = .ok (.arraylength, 1)) : ev_Ok cc nL hh own Ts Tn Tq cl isI CO pc a_alen := by
  intro p l e R s m args below meth c Q D cs ox A al0 k0 n0 call kont f hs o hs' cx hI hC hR hT hpc h hk
  obtain ⟨pc', lo, st⟩ := f
  cases hpc
  obtain ⟨⟨hx, hb, hml, hown, hts⟩, ⟨hKK, hA, hNw, hZU, hZS, hTq, hNc, hX⟩, hEx, hRc, hRs⟩ := cx
  have h : a_alen call kont (pc', lo, st) hs = some (o, hs') := h
  match st, h with
  | .ref a :: st, h =>
    unfold a_alen at h
    dsimp only at h
    cases hq : hs.1[a]? with
    | none => rw [hq] at h; cases h
    | some e0 =>
      rw [hq] at h
      obtain ⟨t0, vs⟩ := e0
      cases t0 with
      | inr cx => cases h
      | inl t =>
        dsimp only at h
        cases hb2 : Nat.ble t 5 with
        | false => rw [hb2] at h; cases h
        | true =>
          rw [hb2] at h
          dsimp only [cond_true] at h
          have q1 : t ≤ 5 := Nat.le_of_ble_eq_true hb2
          intro h1 h2
          obtain ⟨g1, g2, g3⟩ := hk _ _ h h1 h2
          refine ⟨g1, g2, fun al H locs ls w wl wv hl => ?_⟩
          have he := ev_w_get (cs := cs) (ox := ox) w.2.1 hq
          exact va_alen hx hb hKK w.2.2.1 a t he (ev_tys_at cs q1) rfl d (g3 al H locs ls w wl (ev_allc trivial (ev_tl wv)) hl)
theorem ok_aaload (d : decode cc pc = .ok (.aaload, 1)) : ev_Ok cc nL hh own Ts Tn Tq cl isI CO pc a_ald := by
  intro p l e R s m args below meth c Q D cs ox A al0 k0 n0 call kont f hs o hs' cx hI hC hR hT hpc h hk
  obtain ⟨pc', lo, st⟩ := f
  cases hpc
  obtain ⟨⟨hx, hb, hml, hown, hts⟩, ⟨hKK, hA, hNw, hZU, hZS, hTq, hNc, hX⟩, hEx, hRc, hRs⟩ := cx
  have h : a_ald call kont (pc', lo, st) hs = some (o, hs') := h
  match st, h with
  | .int i :: .ref a :: st, h =>
    unfold a_ald at h
    dsimp only at h
    cases hq : hs.1[a]? with
    | none => rw [hq] at h; cases h
    | some e0 =>
      rw [hq] at h
      obtain ⟨t0, vs⟩ := e0
      cases t0 with
      | inr cx => cases h
      | inl t =>
        dsimp only at h
        cases hb2 : (Nat.ble 3 t && Nat.ble t 5) with
        | false => rw [hb2] at h; cases h
        | true =>
          rw [hb2] at h
          obtain ⟨q1, q2⟩ := Bool.and_eq_true_iff.mp hb2
          have n3 : 3 ≤ t := Nat.le_of_ble_eq_true q1
          have n5 : t ≤ 5 := Nat.le_of_ble_eq_true q2
          dsimp only [cond_true] at h
          cases hv : ev_at vs i with
          | none => rw [hv] at h; cases h
          | some v =>
            rw [hv] at h
            cases v with
            | ref x =>
              dsimp only at h
              obtain ⟨n1, n2⟩ := ev_at_spec hv
              have hlt : i.toNatClampNeg < vs.length := (List.getElem?_eq_some_iff.mp n2).1
              intro h1 h2
              obtain ⟨g1, g2, g3⟩ := hk _ _ h h1 h2
              refine ⟨g1, g2, fun al H locs ls w wl wv hl => ?_⟩
              have he : (ev_w cs ox al hs.1)[a]? = some (al.getD a 0, .inl (cs t, vs.length, .inr (.inr (.inr (.inr (fun j => ev_q al (vs.getD j .null))))))) := by
                rw [ev_w_get w.2.1 hq, ← ev_arr_q al n3]
                rfl
              have hx2 : va_rf (ev_q al (vs.getD i.toNatClampNeg .null)) = .ref (al.getD x 0) := by rw [List.getD_eq_getElem?_getD, n2]; rfl
              have k3 := g3 al H locs ls w wl (ev_allc (w.2.2.2.2.2 _ (List.mem_of_getElem? hq) _ (List.mem_of_getElem? n2)) (ev_tl (ev_tl wv))) hl
              exact W.aald (v := .ref (al.getD x 0)) (ty := ev_ty t) hx hb (w.2.2.1 a _ he) ((hKK.2 t _ (ev_tys_at cs n5)).1 vs.length (fun j => va_rf (ev_q al (vs.getD j .null)))) (ev_ty_ref n3 n5) (fun q => by cases q) (by show ¬ (i < 0 ∨ (arrV _ _ _).slots.size ≤ _); rw [arrV_size]; exact n1) (by show (arrV _ _ _).slots[_]? = _; rw [arrV_read _ _ hlt]; exact congrArg some hx2) rfl rfl d k3
            | _ => cases h
theorem ok_aastore (d : decode cc pc = .ok (.aastore, 1)) : ev_Ok cc nL hh own Ts Tn Tq cl isI CO pc a_ast := by
  intro p l e R s m args below meth c Q D cs ox A al0 k0 n0 call kont f hs o hs' cx hI hC hR hT hpc h hk
  obtain ⟨pc', lo, st⟩ := f
  cases hpc
  obtain ⟨⟨hx, hb, hml, hown, hts⟩, ⟨hKK, hA, hNw, hZU, hZS, hTq, hNc, hX⟩, hEx, hRc, hRs⟩ := cx
  have h : a_ast call kont (pc', lo, st) hs = some (o, hs') := h
  match st, h with
  | .ref x :: .int i :: .ref a :: st, h =>
    unfold a_ast at h
    dsimp only at h
    cases hq : hs.1[a]? with
    | none => rw [hq] at h; cases h
    | some ea =>
      cases hqx : hs.1[x]? with
      | none => rw [hq, hqx] at h; obtain ⟨ka | ka, va⟩ := ea <;> cases h
      | some eb =>
        rw [hq, hqx] at h
        obtain ⟨ka, vs⟩ := ea
        obtain ⟨kb, vv⟩ := eb
        cases ka with
        | inr _ => cases h
        | inl t =>
         cases kb with
         | inr _ => cases h
         | inl tv =>
          dsimp only at h
          cases hb2 : ev_isc t tv with
          | false => rw [hb2] at h; cases h
          | true =>
            rw [hb2] at h
            obtain ⟨hc1, n3, n5, m5⟩ := ev_isc_spec hb2
            dsimp only [cond_true] at h
            cases hv : ev_at vs i with
            | none => rw [hv] at h; cases h
            | some v =>
              rw [hv] at h
              dsimp only at h
              obtain ⟨n1, n2⟩ := ev_at_spec hv
              have hlt : i.toNatClampNeg < vs.length := (List.getElem?_eq_some_iff.mp n2).1
              have h0 : ¬ i < 0 := fun q => n1 (Or.inl q)
              obtain ⟨kA, k1, k2⟩ := hX.2.2.2.1 _ hc1
              obtain ⟨-, kv, hkv, -⟩ := (hKK.2 tv _ (ev_tys_at cs m5)).1 0 (fun _ => .null)
              intro h1 h2
              obtain ⟨g1, g2, g3⟩ := hk _ _ h h1 h2
              refine ⟨g1, g2, fun al H locs ls w wl wv hl => ?_⟩
              have he : (ev_w cs ox al hs.1)[a]? = some (al.getD a 0, .inl (cs t, vs.length, .inr (.inr (.inr (.inr (fun j => ev_q al (vs.getD j .null))))))) := by
                rw [ev_w_get w.2.1 hq, ← ev_arr_q al n3]
                rfl
              have hev := ev_w_get (cs := cs) (ox := ox) w.2.1 hqx
              have hset : (ev_w cs ox al hs.1).set a (al.getD a 0, .inl (cs t, vs.length, .inr (.inr (.inr (.inr (va_up (fun j => ev_q al (vs.getD j .null)) i.toNatClampNeg (some (al.getD x 0)))))))) = ev_w cs ox al (hs.1.set a (.inl t, vs.set i.toNatClampNeg (.ref x))) := by
                rw [← ev_w_set w.2.1 a (.inl t, vs.set i.toNatClampNeg (.ref x)), ev_updq al vs i.toNatClampNeg x hlt]
                show _ = (ev_w cs ox al hs.1).set a (al.getD a 0, .inl (cs t, ev_arr al t (vs.set i.toNatClampNeg (.ref x))))
                rw [ev_arr_q al n3, List.length_set]
              have hcv : ∃ cv : Cell, H[al.getD x 0]? = some cv ∧ cv.cls = cs tv ∧ cv.vm = .none := by
                refine ⟨vp_cell (cs tv) (ev_arr al tv vv), w.2.2.1 x _ hev, ?_, ?_⟩ <;> (unfold vp_cell ev_arr; cases Nat.beq tv 2 <;> cases Nat.ble 3 tv <;> rfl)
              obtain ⟨cv, z1, z2, z3⟩ := hcv
              show W p l e R s m args below meth c H locs _ _ Q (F0 m pc' ls (.ref (al.getD x 0) :: .int i :: .ref (al.getD a 0) :: st.map (ev_rv ox al)))
              refine W.aast (comp := cs tv) (t := ev_ty t) (kv := kv) (kcomp := kv) hx hb (w.2.2.1 a _ he) (fun q h => by cases h) (fun h => by cases h) k1 k2 (ev_ty_ref n3 n5) hkv ⟨h0, by show _ < (arrV _ _ _).slots.size; rw [arrV_size]; exact hlt⟩ z1 (fun q h => by rw [z3] at h; cases h) (by rw [z2]; exact hkv) (by rw [z2]; exact ev_assign _ _) rfl rfl d fun H1 e1 z oq => ?_
              have hat : H1[al.getD a 0]? = some (vp_cell (cs t) (vs.length, .inr (.inr (.inr (.inr (va_up (fun j => ev_q al (vs.getD j .null)) i.toNatClampNeg (some (al.getD x 0)))))))) := by
                rw [e1]
                rw [vp_cell_q, vp_cell_q, arrV_store]
                congr 2
                funext q
                by_cases hq : q = i.toNatClampNeg
                · subst hq
                  simp [updV, va_up, va_rf]
                · simp [updV, va_up, hq]
              have hP1 := w.2.2.1.set (e := .inl (cs t, vs.length, .inr (.inr (.inr (.inr (va_up (fun j => ev_q al (vs.getD j .null)) i.toNatClampNeg (some (al.getD x 0)))))))) w.2.2.2.1 he hat oq
              have hD1 := w.2.2.2.1.set (e := .inl (cs t, vs.length, .inr (.inr (.inr (.inr (va_up (fun j => ev_q al (vs.getD j .null)) i.toNatClampNeg (some (al.getD x 0)))))))) he
              have hS1 := w.2.2.2.2.1.put (k := i.toNatClampNeg) z oq (w.2.2.2.1.2 a _ he)
              rw [hset] at hP1 hD1
              exact g3 al H1 _ ls ⟨w.1, by rw [List.length_set]; exact w.2.1, hP1, hD1, hS1, ev_wf_set w.2.2.2.2.2 (ev_mem_set (w.2.2.2.2.2 _ (List.mem_of_getElem? hq)) (ev_hd wv))⟩ (by dsimp only; rw [List.length_set]; exact wl) (by dsimp only; rw [List.length_set]; exact ev_tl (ev_tl (ev_tl wv))) hl
theorem ok_sld (d : decode cc pc = .ok (.iaload, 1)) : ev_Ok cc nL hh own Ts Tn Tq cl isI CO pc (a_sld Tq.2.2) := by
  intro p l e R s m args below meth c Q D cs ox A al0 k0 n0 call kont f hs o hs' cx hI hC hR hT hpc h hk
  obtain ⟨pc', lo, st⟩ := f
  cases hpc
  obtain ⟨⟨hx, hb, hml, hown, hts⟩, ⟨hKK, hA, hNw, hZU, hZS, hTq, hNc, hX⟩, hEx, hRc, hRs⟩ := cx
  have h : (a_sld Tq.2.2) call kont (pc', lo, st) hs = some (o, hs') := h
  match st, h with
  | .int i :: .float z :: st, h =>
    unfold a_sld at h
    dsimp only at h
    cases hb2 : (Nat.beq z.toNat 0 && (!decide (i < 0) && !Nat.ble Tq.2.2.1 i.toNatClampNeg)) with
    | false => rw [hb2] at h; cases h
    | true =>
      rw [hb2] at h
      dsimp only [cond_true] at h
      obtain ⟨b1, b2⟩ := Bool.and_eq_true_iff.mp hb2
      obtain ⟨b2, b3⟩ := Bool.and_eq_true_iff.mp b2
      have hz := Nat.eq_of_beq_eq_true b1
      have hi : ¬ i < 0 := fun q => by rw [decide_eq_true q] at b2; cases b2
      have hlt : ¬ Tq.2.2.1 ≤ i.toNatClampNeg := fun q => by rw [Nat.ble_eq_true_of_le q] at b3; cases b3
      intro h1 h2
      obtain ⟨g1, g2, g3⟩ := hk _ _ h h1 h2
      refine ⟨g1, g2, fun al H locs ls w wl wv hl => ?_⟩
      have k3 := g3 al H locs ls w wl (ev_allc trivial (ev_tl (ev_tl wv))) hl
      show W p l e R s m args below meth c H locs _ _ Q (F0 m pc' ls (.int i :: .ref (ox z.toNat) :: st.map (ev_rv ox al)))
      rw [hz]
      exact va_sld hx hb hX.1 hX.2.1 hX.2.2.1 w.2.2.2.2.1 (fun q => q.elim hi hlt) d k3
theorem ok_slen (d : decode cc pc = .ok (.arraylength, 1)) : ev_Ok cc nL hh own Ts Tn Tq cl isI CO pc (a_slen Tq.2.2) := by
  intro p l e R s m args below meth c Q D cs ox A al0 k0 n0 call kont f hs o hs' cx hI hC hR hT hpc h hk
  obtain ⟨pc', lo, st⟩ := f
  cases hpc
  obtain ⟨⟨hx, hb, hml, hown, hts⟩, ⟨hKK, hA, hNw, hZU, hZS, hTq, hNc, hX⟩, hEx, hRc, hRs⟩ := cx
  have h : (a_slen Tq.2.2) call kont (pc', lo, st) hs = some (o, hs') := h
  match st, h with
  | .float z :: st, h =>
    unfold a_slen at h
    dsimp only at h
    cases hb2 : Nat.beq z.toNat 0 with
    | false => rw [hb2] at h; cases h
    | true =>
      rw [hb2] at h
      dsimp only [cond_true] at h
      have hz := Nat.eq_of_beq_eq_true hb2
      intro h1 h2
      obtain ⟨g1, g2, g3⟩ := hk _ _ h h1 h2
      refine ⟨g1, g2, fun al H locs ls w wl wv hl => ?_⟩
      have k3 := g3 al H locs ls w wl (ev_allc trivial (ev_tl wv)) hl
      show W p l e R s m args below meth c H locs _ _ Q (F0 m pc' ls (.ref (ox z.toNat) :: st.map (ev_rv ox al)))
      rw [hz]
      exact va_slen hx hb hX.1 hX.2.1 hX.2.2.1 w.2.2.2.2.1 d k3
theorem ok_new {C : String} {T : u_T} {N index ci : Nat} {fs : List Value} (d : decode cc pc = .ok (.new index, 3)) (hc : cl[ci]? = some (C, T, N)) (hin : ∀ w ∈ u_ws C T N, w ∈ Ts) (ty : Nat → FieldType) (hty : ∀ k, k < N → parseFieldDescriptor (T k).2.2.1 = some (ty k)) (hw1 : Cond.classLink own index C ∈ Ts) (hw2 : Cond.instantiable C N ∈ Ts) (hw3 : Cond.initialized C ∈ Ts) (hfs : ∀ j, j < N → defaultValue (ty j) = vp_V fs j) (hcon : fs.all (fun v => match v with | .ref _ => false | .float _ => false | _ => true) = true) : ev_Ok cc nL hh own Ts Tn Tq cl isI CO pc (a_new ci N fs) := by
  intro p l e R s m args below meth c Q D cs ox A al0 k0 n0 call kont f hs o hs' cx hI hC hR hT hpc h hk
  obtain ⟨pc', lo, st⟩ := f
  cases hpc
  obtain ⟨⟨hx, hb, hml, hown, hts⟩, ⟨hKK, hA, hNw, hZU, hZS, hTq, hNc, hX⟩, hEx, hRc, hRs⟩ := cx
  have h : (a_new ci N fs) call kont (pc', lo, st) hs = some (o, hs') := h
  have hcl : ∀ v ∈ fs, ev_ok 0 v ∧ ∀ (ox : Nat → Nat) (al : List Nat), ev_rv ox al v = v := by
    intro v hv
    have h3 := List.all_eq_true.mp hcon v hv
    cases v with
    | ref a => cases h3
    | float a => cases h3
    | _ => exact ⟨trivial, fun _ _ => rfl⟩
  have h : kont (pc' + 3, lo, .ref hs.1.length :: st) (hs.1 ++ [(.inr ci, fs)], hs.2.1 + 1, hs.2.2 + N) = some (o, hs') := h
  intro h1 h2
  obtain ⟨g1, g2, g3⟩ := hk _ _ h (Nat.le_succ_of_le h1) (Nat.le_add_right_of_le h2)
  dsimp only at g1 g2 g3
  refine ⟨Nat.le_of_succ_le g1, Nat.le_trans (Nat.le_add_right _ _) g2, fun al H locs ls w wl wv hl => ?_⟩
  refine va_new (fs := fs) hx hb hts hin ty hty hown (hts _ hw1) (hts _ hw2) (hts _ hw3) hKK w.2.2.1 w.2.2.2.1 w.2.2.2.2.1 hA hc hfs (by omega) (by omega) d (fun q H1 hP1 hD1 hS1 => ?_)
  have hwp : ev_w cs ox al hs.1 ++ [(q, .inr (ci, fs))] = ev_w cs ox (al ++ [q]) (hs.1 ++ [(.inr ci, fs)]) := by
    rw [← ev_w_push w.2.1 w.2.2.2.2.2 q (e := (.inr ci, fs)) (fun v hv => ev_ok_mono (Nat.zero_le _) (hcl v hv).1)]
    show _ = ev_w cs ox al hs.1 ++ [(q, .inr (ci, fs.map (ev_rv ox al)))]
    rw [List.map_congr_left (fun v hv => (hcl v hv).2 ox al), List.map_id']
  rw [hwp] at hP1 hD1
  have k3 := g3 (al ++ [q]) H1 locs ls ⟨List.IsPrefix.trans w.1 (List.prefix_append _ _), by rw [List.length_append, List.length_append, w.2.1]; rfl, hP1, hD1, hS1, ev_wf_push w.2.2.2.2.2 (fun v hv => ev_ok_mono (Nat.zero_le _) (hcl v hv).1)⟩ (fun q hq => ev_ok_mono (by rw [List.length_append]; exact Nat.le_add_right _ _) (wl q hq)) (ev_allc (show hs.1.length < _ by rw [List.length_append]; exact Nat.lt_succ_self _) (fun v hv => ev_ok_mono (by rw [List.length_append]; exact Nat.le_add_right _ _) (wv v hv))) (by rw [ev_loc_app w.2.1 wl]; exact hl)
  rw [show hs.2.1 + 1 - k0 = hs.2.1 - k0 + 1 by omega, show hs.2.2 + N - n0 = hs.2.2 - n0 + N by omega, List.map_cons, ev_stk_app w.2.1 wv] at k3
  rw [show ev_rv ox (al ++ [q]) (.ref hs.1.length) = .ref q from ev_rv_new ox w.2.1 q] at k3
  exact k3
theorem ok_anewq {index T : Nat} {ft : FieldType} (d : decode cc pc = .ok (.anewarray index, 3)) (hT3 : 3 ≤ T) (hT5 : T ≤ 5) (hft : ev_ty T = .array ft) (hw : Cond.classLink own index (FieldType.array ft).toString ∈ Ts) (hw2 : ft ∈ ev_aos) : ev_Ok cc nL hh own Ts Tn Tq cl isI CO pc (a_newq T) := by
  intro p l e R s m args below meth c Q D cs ox A al0 k0 n0 call kont f hs o hs' cx hI hC hR hT hpc h hk
  obtain ⟨pc', lo, st⟩ := f
  cases hpc
  obtain ⟨⟨hx, hb, hml, hown, hts⟩, ⟨hKK, hA, hNw, hZU, hZS, hTq, hNc, hX⟩, hEx, hRc, hRs⟩ := cx
  have h : (a_newq T) call kont (pc', lo, st) hs = some (o, hs') := h
  match st, h with
  | .int n :: st, h =>
    have h : (if n < 0 then none else bif Nat.ble (n.toNatClampNeg * 8) 536870912 then kont (pc' + 3, lo, .ref hs.1.length :: st) (hs.1 ++ [(.inl T, List.replicate n.toNatClampNeg .null)], hs.2.1 + 1, hs.2.2 + n.toNatClampNeg) else none) = some (o, hs') := h
    by_cases hn : n < 0
    · rw [if_pos hn] at h; cases h
    · rw [if_neg hn] at h
      cases hb2 : Nat.ble (n.toNatClampNeg * 8) 536870912 with
      | false => rw [hb2] at h; cases h
      | true =>
        rw [hb2] at h
        dsimp only [cond_true] at h
        have hby : n.toNatClampNeg * 8 ≤ 536870912 := Nat.le_of_ble_eq_true hb2
        intro h1 h2
        obtain ⟨g1, g2, g3⟩ := hk _ _ h (Nat.le_succ_of_le h1) (Nat.le_add_right_of_le h2)
        dsimp only at g1 g2 g3
        refine ⟨Nat.le_of_succ_le g1, Nat.le_trans (Nat.le_add_right _ _) g2, fun al H locs ls w wl wv hl => ?_⟩
        refine W.anewA (t := ft) hx hb hown (hts _ hw) (ev_AO.use (hX.2.2.2.2 ft hw2)) rfl d rfl hn (show n.toNatClampNeg * 4 ≤ 536870912 by omega) (by omega) (by omega) (fun cA kA comp f1 f2 f3 f4 => ?_)
        have hcA : cA = cs T := by
          have h6 := (hKK.2 T _ (ev_tys_at cs hT5)).2
          rw [hft] at h6
          exact Option.some.inj (f1.symm.trans h6)
        subst hcA
        generalize hH1 : H.push ({ cls := cs T, slots := Array.replicate n.toNatClampNeg .null, vm := .none } : Cell) = H1
        have z1 : H1.size = H.size + 1 := by rw [← hH1, Array.size_push]
        have e1 : H1[H.size]? = some (arrV (cs T) n.toNatClampNeg (fun _ => .null)) := by rw [← hH1, Array.getElem?_push_size, ← arrV_new]
        have o1 : ∀ q : Nat, q < H.size → H1[q]? = H[q]? := fun q hq => by rw [← hH1, Array.getElem?_push, if_neg (Nat.ne_of_lt hq)]
        have hk2 : ∀ (k : Nat) (x : Nat × va_E), (ev_w cs ox al hs.1)[k]? = some x → H1[x.1]? = H[x.1]? := fun k x hx => o1 x.1 ((w.2.2.1 k x hx).lt)
        have hP1 : va_P D cl (ev_w cs ox al hs.1 ++ [(H.size, .inl (cs T, ev_arr al T (List.replicate n.toNatClampNeg .null)))]) H1 := (w.2.2.1.kept hk2).app (fun k x hx => by
          have hz : k < 1 := (List.getElem?_eq_some_iff.mp hx).1
          rw [show k = 0 by omega] at hx
          cases hx
          show H1[H.size]? = some (vp_cell _ _)
          rw [ev_arr_newq al T n.toNatClampNeg (cs T) hT3]
          exact e1)
        have hD1 : va_D A (ev_w cs ox al hs.1 ++ [(H.size, .inl (cs T, ev_arr al T (List.replicate n.toNatClampNeg .null)))]) := w.2.2.2.1.push w.2.2.1 rfl (hA _ w.2.2.2.2.1.1)
        have hS1 : va_S A s.heap H1 locs := ⟨Nat.le_trans w.2.2.2.2.1.1 (by omega), fun x h1 h2 => (o1 x (Nat.lt_of_lt_of_le h1 w.2.2.2.2.1.1)).trans (w.2.2.2.2.1.2.1 x h1 h2), w.2.2.2.2.1.2.2⟩
        have hwp : ev_w cs ox al hs.1 ++ [(H.size, .inl (cs T, ev_arr al T (List.replicate n.toNatClampNeg .null)))] = ev_w cs ox (al ++ [H.size]) (hs.1 ++ [(.inl T, List.replicate n.toNatClampNeg .null)]) :=
          ev_w_push w.2.1 w.2.2.2.2.2 H.size (e := (.inl T, List.replicate n.toNatClampNeg .null)) (fun v hv => by rw [List.eq_of_mem_replicate hv]; trivial)
        rw [hwp] at hP1 hD1
        have k3 := g3 (al ++ [H.size]) H1 locs ls ⟨List.IsPrefix.trans w.1 (List.prefix_append _ _), by rw [List.length_append, List.length_append, w.2.1]; rfl, hP1, hD1, hS1, ev_wf_push w.2.2.2.2.2 (fun v hv => by rw [List.eq_of_mem_replicate hv]; trivial)⟩ (fun q hq => ev_ok_mono (by rw [List.length_append]; exact Nat.le_add_right _ _) (wl q hq)) (ev_allc (show hs.1.length < _ by rw [List.length_append]; exact Nat.lt_succ_self _) (fun v hv => ev_ok_mono (by rw [List.length_append]; exact Nat.le_add_right _ _) (ev_tl wv v hv))) (by rw [ev_loc_app w.2.1 wl]; exact hl)
        rw [show hs.2.1 + 1 - k0 = hs.2.1 - k0 + 1 by omega, show hs.2.2 + n.toNatClampNeg - n0 = hs.2.2 - n0 + n.toNatClampNeg by omega, List.map_cons, ev_stk_app w.2.1 (ev_tl wv)] at k3
        rw [show ev_rv ox (al ++ [H.size]) (.ref hs.1.length) = .ref H.size from ev_rv_new ox w.2.1 H.size] at k3
        exact k3
theorem ok_newint (d : decode cc pc = .ok (.newarray .int, 2)) (hw : Cond.arrayClass .int ∈ Ts) : ev_Ok cc nL hh own Ts Tn Tq cl isI CO pc (a_newa 0) := by
  intro p l e R s m args below meth c Q D cs ox A al0 k0 n0 call kont f hs o hs' cx hI hC hR hT hpc h hk
  obtain ⟨pc', lo, st⟩ := f
  cases hpc
  obtain ⟨⟨hx, hb, hml, hown, hts⟩, ⟨hKK, hA, hNw, hZU, hZS, hTq, hNc, hX⟩, hEx, hRc, hRs⟩ := cx
  have h : (a_newa 0) call kont (pc', lo, st) hs = some (o, hs') := h
  match st, h with
  | .int n :: st, h =>
    have h : (if n < 0 then none else bif Nat.ble (n.toNatClampNeg * 8) 536870912 then kont (pc' + 2, lo, .ref hs.1.length :: st) (hs.1 ++ [(.inl 0, List.replicate n.toNatClampNeg (ev_dv 0))], hs.2.1 + 1, hs.2.2 + n.toNatClampNeg) else none) = some (o, hs') := h
    by_cases hn : n < 0
    · rw [if_pos hn] at h; cases h
    · rw [if_neg hn] at h
      cases hb2 : Nat.ble (n.toNatClampNeg * 8) 536870912 with
      | false => rw [hb2] at h; cases h
      | true =>
        rw [hb2] at h
        dsimp only [cond_true] at h
        have hby : n.toNatClampNeg * 8 ≤ 536870912 := Nat.le_of_ble_eq_true hb2
        intro h1 h2
        obtain ⟨g1, g2, g3⟩ := hk _ _ h (Nat.le_succ_of_le h1) (Nat.le_add_right_of_le h2)
        dsimp only at g1 g2 g3
        refine ⟨Nat.le_of_succ_le g1, Nat.le_trans (Nat.le_add_right _ _) g2, fun al H locs ls w wl wv hl => ?_⟩
        refine va_newa (atype := .int) (ty := .int) (N' := n.toNatClampNeg) (a0 := ev_arr al 0 (List.replicate n.toNatClampNeg (ev_dv 0))) hx hb (hts _ hw) rfl hKK w.2.2.1 w.2.2.2.1 w.2.2.2.2.1 hA (fun cA => ?_) hn rfl (show n.toNatClampNeg * 4 ≤ 536870912 by omega) (by omega) (by omega) d (fun q cA H1 hK1 hP1 hD1 hS1 => ?_)
        · exact ev_arr_new al 0 n.toNatClampNeg cA rfl
        · have hcA : cA = cs 0 := by
            have h5 := (hK1.2 6 (cA, .int) rfl).2
            have h6 := (hKK.2 0 (cs 0, .int) rfl).2
            exact Option.some.inj (h5.symm.trans h6)
          subst hcA
          have hwp : ev_w cs ox al hs.1 ++ [(q, .inl (cs 0, ev_arr al 0 (List.replicate n.toNatClampNeg (ev_dv 0))))] = ev_w cs ox (al ++ [q]) (hs.1 ++ [(.inl 0, List.replicate n.toNatClampNeg (ev_dv 0))]) :=
            ev_w_push w.2.1 w.2.2.2.2.2 q (e := (.inl 0, List.replicate n.toNatClampNeg (ev_dv 0))) (fun v hv => by rw [List.eq_of_mem_replicate hv]; trivial)
          rw [hwp] at hP1 hD1
          have k3 := g3 (al ++ [q]) H1 locs ls ⟨List.IsPrefix.trans w.1 (List.prefix_append _ _), by rw [List.length_append, List.length_append, w.2.1]; rfl, hP1, hD1, hS1, ev_wf_push w.2.2.2.2.2 (fun v hv => by rw [List.eq_of_mem_replicate hv]; trivial)⟩ (fun q hq => ev_ok_mono (by rw [List.length_append]; exact Nat.le_add_right _ _) (wl q hq)) (ev_allc (show hs.1.length < _ by rw [List.length_append]; exact Nat.lt_succ_self _) (fun v hv => ev_ok_mono (by rw [List.length_append]; exact Nat.le_add_right _ _) (ev_tl wv v hv))) (by rw [ev_loc_app w.2.1 wl]; exact hl)
          rw [show hs.2.1 + 1 - k0 = hs.2.1 - k0 + 1 by omega, show hs.2.2 + n.toNatClampNeg - n0 = hs.2.2 - n0 + n.toNatClampNeg by omega, List.map_cons, ev_stk_app w.2.1 (ev_tl wv)] at k3
          rw [show ev_rv ox (al ++ [q]) (.ref hs.1.length) = .ref q from ev_rv_new ox w.2.1 q] at k3
          exact k3
theorem ok_newboolean (d : decode cc pc = .ok (.newarray .boolean, 2)) (hw : Cond.arrayClass .boolean ∈ Ts) : ev_Ok cc nL hh own Ts Tn Tq cl isI CO pc (a_newa 1) := by
  intro p l e R s m args below meth c Q D cs ox A al0 k0 n0 call kont f hs o hs' cx hI hC hR hT hpc h hk
  obtain ⟨pc', lo, st⟩ := f
  cases hpc
  obtain ⟨⟨hx, hb, hml, hown, hts⟩, ⟨hKK, hA, hNw, hZU, hZS, hTq, hNc, hX⟩, hEx, hRc, hRs⟩ := cx
  have h : (a_newa 1) call kont (pc', lo, st) hs = some (o, hs') := h
  match st, h with
  | .int n :: st, h =>
    have h : (if n < 0 then none else bif Nat.ble (n.toNatClampNeg * 8) 536870912 then kont (pc' + 2, lo, .ref hs.1.length :: st) (hs.1 ++ [(.inl 1, List.replicate n.toNatClampNeg (ev_dv 1))], hs.2.1 + 1, hs.2.2 + n.toNatClampNeg) else none) = some (o, hs') := h
    by_cases hn : n < 0
    · rw [if_pos hn] at h; cases h
    · rw [if_neg hn] at h
      cases hb2 : Nat.ble (n.toNatClampNeg * 8) 536870912 with
      | false => rw [hb2] at h; cases h
      | true =>
        rw [hb2] at h
        dsimp only [cond_true] at h
        have hby : n.toNatClampNeg * 8 ≤ 536870912 := Nat.le_of_ble_eq_true hb2
        intro h1 h2
        obtain ⟨g1, g2, g3⟩ := hk _ _ h (Nat.le_succ_of_le h1) (Nat.le_add_right_of_le h2)
        dsimp only at g1 g2 g3
        refine ⟨Nat.le_of_succ_le g1, Nat.le_trans (Nat.le_add_right _ _) g2, fun al H locs ls w wl wv hl => ?_⟩
        refine va_newa (atype := .boolean) (ty := .boolean) (N' := n.toNatClampNeg) (a0 := ev_arr al 1 (List.replicate n.toNatClampNeg (ev_dv 1))) hx hb (hts _ hw) rfl hKK w.2.2.1 w.2.2.2.1 w.2.2.2.2.1 hA (fun cA => ?_) hn rfl (show n.toNatClampNeg * 1 ≤ 536870912 by omega) (by omega) (by omega) d (fun q cA H1 hK1 hP1 hD1 hS1 => ?_)
        · exact ev_arr_new al 1 n.toNatClampNeg cA rfl
        · have hcA : cA = cs 1 := by
            have h5 := (hK1.2 6 (cA, .boolean) rfl).2
            have h6 := (hKK.2 1 (cs 1, .boolean) rfl).2
            exact Option.some.inj (h5.symm.trans h6)
          subst hcA
          have hwp : ev_w cs ox al hs.1 ++ [(q, .inl (cs 1, ev_arr al 1 (List.replicate n.toNatClampNeg (ev_dv 1))))] = ev_w cs ox (al ++ [q]) (hs.1 ++ [(.inl 1, List.replicate n.toNatClampNeg (ev_dv 1))]) :=
            ev_w_push w.2.1 w.2.2.2.2.2 q (e := (.inl 1, List.replicate n.toNatClampNeg (ev_dv 1))) (fun v hv => by rw [List.eq_of_mem_replicate hv]; trivial)
          rw [hwp] at hP1 hD1
          have k3 := g3 (al ++ [q]) H1 locs ls ⟨List.IsPrefix.trans w.1 (List.prefix_append _ _), by rw [List.length_append, List.length_append, w.2.1]; rfl, hP1, hD1, hS1, ev_wf_push w.2.2.2.2.2 (fun v hv => by rw [List.eq_of_mem_replicate hv]; trivial)⟩ (fun q hq => ev_ok_mono (by rw [List.length_append]; exact Nat.le_add_right _ _) (wl q hq)) (ev_allc (show hs.1.length < _ by rw [List.length_append]; exact Nat.lt_succ_self _) (fun v hv => ev_ok_mono (by rw [List.length_append]; exact Nat.le_add_right _ _) (ev_tl wv v hv))) (by rw [ev_loc_app w.2.1 wl]; exact hl)
          rw [show hs.2.1 + 1 - k0 = hs.2.1 - k0 + 1 by omega, show hs.2.2 + n.toNatClampNeg - n0 = hs.2.2 - n0 + n.toNatClampNeg by omega, List.map_cons, ev_stk_app w.2.1 (ev_tl wv)] at k3
          rw [show ev_rv ox (al ++ [q]) (.ref hs.1.length) = .ref q from ev_rv_new ox w.2.1 q] at k3
          exact k3
theorem ok_objinit {index : Nat} (d : decode cc pc = .ok (.invokespecial index, 3)) (hw1 : Cond.methodLink own index objectInit ∈ Ts) (hw2 : Cond.instanceMethod objectInit ∈ Ts) (hw3 : Cond.code objectInit ⟨#[0xb1]⟩ 1 none ∈ Ts) (hR1 : ∀ (l : Launch) (R : Room) (cs : Nat → ClassId) (D : va_G) (ox : Nat → Nat) (A : Nat → Prop) (call : ECall), CO l R cs D ox A call → 1 ≤ R.frames ∧ 20 ≤ R.locals) : ev_Ok cc nL hh own Ts Tn Tq cl isI CO pc a_objI := by
  intro p l e R s m args below meth c Q D cs ox A al0 k0 n0 call kont f hs o hs' cx hI hC hR hT hpc h hk
  obtain ⟨pc', lo, st⟩ := f
  cases hpc
  obtain ⟨⟨hx, hb, hml, hown, hts⟩, ⟨hKK, hA, hNw, hZU, hZS, hTq, hNc, hX⟩, hEx, hRc, hRs⟩ := cx
  have h : a_objI call kont (pc', lo, st) hs = some (o, hs') := h
  match st, h with
  | .ref a :: st, h =>
    have h : (bif Nat.ble (st.map fun v => v.category).sum 8 then kont (pc' + 3, lo, st) hs else none) = some (o, hs') := h
    cases hb2 : Nat.ble (st.map fun v => v.category).sum 8 with
    | false => rw [hb2] at h; cases h
    | true =>
      rw [hb2] at h
      dsimp only [cond_true] at h
      have hs8 : (st.map fun v => v.category).sum ≤ 8 := Nat.le_of_ble_eq_true hb2
      obtain ⟨r1, r2⟩ := hR1 l R cs D ox A call hC
      intro h1 h2
      obtain ⟨g1, g2, g3⟩ := hk _ _ h h1 h2
      refine ⟨g1, g2, fun al H locs ls w wl wv hl => ?_⟩
      have hcs : ((st.map (ev_rv ox al)).map fun v => v.category).sum = (st.map fun v => v.category).sum := ev_cats ox al st
      exact W.objInit (g := F0 m pc' ls (.ref (al.getD a 0) :: st.map (ev_rv ox al))) hx hb hown (hts _ hw1) (hts _ hw2) (hts _ hw3) rfl (by show ls.size = c.maxLocals; rw [hml]; exact hl.1) rfl d r1 (by
        have h7 := lv_room (m := m) (pc := pc') (ls := ls) (rest := .ref (al.getD a 0) :: st.map (ev_rv ox al)) (st := st.map (ev_rv ox al)) (by rw [hcs]; exact hs8)
        omega) (g3 al H locs ls w wl (ev_tl wv) hl)
theorem ok_cpq {index : Nat} (d : decode cc pc = .ok (.invokestatic index, 3)) (hw1 : Cond.methodLink own index arraycopyName ∈ Ts) (hw2 : Cond.native arraycopyName ∈ Ts) (hw3 : Cond.static arraycopyName ∈ Ts) (hw4 : Cond.initialized "java/lang/System" ∈ Ts) (hR1 : ∀ (l : Launch) (R : Room) (cs : Nat → ClassId) (D : va_G) (ox : Nat → Nat) (A : Nat → Prop) (call : ECall), CO l R cs D ox A call → 1 ≤ R.frames ∧ 36 ≤ R.locals) : ev_Ok cc nL hh own Ts Tn Tq cl isI CO pc a_cpq := by
  intro p l e R s m args below meth c Q D cs ox A al0 k0 n0 call kont f hs o hs' cx hI hC hR hT hpc h hk
  obtain ⟨pc', lo, st⟩ := f
  cases hpc
  obtain ⟨⟨hx, hb, hml, hown, hts⟩, ⟨hKK, hA, hNw, hZU, hZS, hTq, hNc, hX⟩, hEx, hRc, hRs⟩ := cx
  have h : a_cpq call kont (pc', lo, st) hs = some (o, hs') := h
  match st, h with
  | .int n :: .int dp :: .ref b :: .int sp :: .ref a :: st, h =>
    unfold a_cpq at h
    dsimp only at h
    cases hqa : hs.1[a]? with
    | none => rw [hqa] at h; cases h
    | some ea =>
      cases hqb : hs.1[b]? with
      | none => rw [hqa, hqb] at h; obtain ⟨ka | ka, va⟩ := ea <;> cases h
      | some eb =>
        rw [hqa, hqb] at h
        obtain ⟨ka, v0⟩ := ea
        obtain ⟨kb, v1⟩ := eb
        cases ka with
        | inr _ => cases h
        | inl t =>
         cases kb with
         | inr _ => cases h
         | inl t1 =>
          dsimp only at h
          cases hb2 : ((Nat.beq t t1 && (Nat.ble 3 t && Nat.ble t 5)) && ((decide (sp = 0) && decide (dp = 0)) && (decide (0 ≤ n) && (Nat.ble n.toNatClampNeg v0.length && (Nat.ble n.toNatClampNeg v1.length && (((v0.take n.toNatClampNeg).all (ev_el hs.1 t)) && Nat.ble ((st.map fun v => v.category).sum) 8)))))) with
          | false => rw [hb2] at h; cases h
          | true =>
            rw [hb2] at h
            simp only [Bool.and_eq_true, decide_eq_true_eq] at hb2
            obtain ⟨⟨q1, qa, qb⟩, ⟨q3, q4⟩, q5, q6, q7, q8, q9⟩ := hb2
            cases Nat.eq_of_beq_eq_true q1
            subst q3
            subst q4
            have n3 := Nat.le_of_ble_eq_true qa
            have n5 := Nat.le_of_ble_eq_true qb
            have n6 := Nat.le_of_ble_eq_true q6
            have n7 := Nat.le_of_ble_eq_true q7
            have n9 := Nat.le_of_ble_eq_true q9
            have hn : ¬ n < 0 := Int32.not_lt.mpr q5
            obtain ⟨r1, r2⟩ := hR1 l R cs D ox A call hC
            dsimp only [cond_true] at h
            intro h1 h2
            obtain ⟨g1, g2, g3⟩ := hk _ _ h h1 h2
            refine ⟨g1, g2, fun al H locs ls w wl wv hl => ?_⟩
            have hea : (ev_w cs ox al hs.1)[a]? = some (al.getD a 0, .inl (cs t, v0.length, .inr (.inr (.inr (.inr (fun j => ev_q al (v0.getD j .null))))))) := by
              rw [ev_w_get w.2.1 hqa, ← ev_arr_q al n3]
              rfl
            have heb : (ev_w cs ox al hs.1)[b]? = some (al.getD b 0, .inl (cs t, v1.length, .inr (.inr (.inr (.inr (fun j => ev_q al (v1.getD j .null))))))) := by
              rw [ev_w_get w.2.1 hqb, ← ev_arr_q al n3]
              rfl
            have hlen : (v0.take n.toNatClampNeg ++ v1.drop n.toNatClampNeg).length = v1.length := by rw [List.length_append, List.length_take, List.length_drop]; omega
            have hset : (ev_w cs ox al hs.1).set b (al.getD b 0, .inl (cs t, v1.length, .inr (.inr (.inr (.inr (va_cpy (fun j => ev_q al (v0.getD j .null)) (fun j => ev_q al (v1.getD j .null)) 0 0 n.toNatClampNeg)))))) = ev_w cs ox al (hs.1.set b (.inl t, v0.take n.toNatClampNeg ++ v1.drop n.toNatClampNeg)) := by
              rw [← ev_w_set w.2.1 b (.inl t, v0.take n.toNatClampNeg ++ v1.drop n.toNatClampNeg), ev_cpyq al v0 v1 n.toNatClampNeg n6]
              show _ = (ev_w cs ox al hs.1).set b (al.getD b 0, .inl (cs t, ev_arr al t (v0.take n.toNatClampNeg ++ v1.drop n.toNatClampNeg)))
              rw [ev_arr_q al n3, hlen]
            have hcat : ((st.map (ev_rv ox al)).map fun v => v.category).sum = (st.map fun v => v.category).sum := ev_cats ox al st
            show W p l e R s m args below meth c H locs _ _ Q (F0 m pc' ls (.int n :: .int 0 :: .ref (al.getD b 0) :: .int 0 :: .ref (al.getD a 0) :: st.map (ev_rv ox al)))
            refine ev_copyR hx hb (hml.trans hl.1.symm) hown (hts _ hw1) (hts _ hw2) (hts _ hw3) (hts _ hw4) w.2.2.1 w.2.2.2.1 w.2.2.2.2.1 a b (ty := ev_ty t) (cA := cs t) (ev_ty_ref n3 n5) hea heb ((hKK.2 t _ (ev_tys_at cs n5)).1) hn n6 n7 (fun i hi y hy => ?_) r1 (by
              have hnw : nativeFrameWords "java/lang/System" "arraycopy" 5 ≤ 7 := by decide +kernel
              omega) d (fun H1 locs1 hP1 hD1 hS1 => ?_)
            · have hz : v0[i]? = some v0[i] := List.getElem?_eq_getElem (by omega)
              have hm : v0[i] ∈ v0.take n.toNatClampNeg := List.mem_of_getElem? (i := i) (by rw [List.getElem?_take_of_lt hi]; exact hz)
              have hf := List.all_eq_true.mp q8 _ hm
              rw [List.getD_eq_getElem?_getD, hz] at hy
              have hy : ev_q al v0[i] = some y := hy
              cases hv : v0[i] with
              | ref x =>
                rw [hv] at hf hy
                have hf : (match hs.1[x]? with | some (.inl tv, _) => ev_isc t tv | _ => false) = true := hf
                have hy : al.getD x 0 = y := Option.some.inj hy
                cases hqx : hs.1[x]? with
                | none => rw [hqx] at hf; cases hf
                | some ex =>
                  rw [hqx] at hf
                  obtain ⟨kx, vx⟩ := ex
                  cases kx with
                  | inr _ => cases hf
                  | inl tv =>
                    have hf : ev_isc t tv = true := hf
                    obtain ⟨hc1, -, -, m5⟩ := ev_isc_spec hf
                    obtain ⟨kA, k1, k2⟩ := hX.2.2.2.1 _ hc1
                    obtain ⟨-, kv, hkv, -⟩ := (hKK.2 tv _ (ev_tys_at cs m5)).1 0 (fun _ => .null)
                    have hev := ev_w_get (cs := cs) (ox := ox) w.2.1 hqx
                    refine ⟨vp_cell (cs tv) (ev_arr al tv vx), cs tv, kA, kv, by rw [← hy]; exact w.2.2.1 x _ hev, ?_, ?_, hkv, k1, k2⟩ <;> (unfold vp_cell ev_arr; cases Nat.beq tv 2 <;> cases Nat.ble 3 tv <;> rfl)
              | _ => rw [hv] at hy; cases hy
            · rw [hset] at hP1 hD1
              exact g3 al H1 locs1 ls ⟨w.1, by rw [List.length_set]; exact w.2.1, hP1, hD1, hS1, ev_wf_set w.2.2.2.2.2 (fun v hv => by
                rcases List.mem_append.mp hv with z | z
                · exact w.2.2.2.2.2 _ (List.mem_of_getElem? hqa) v (List.mem_of_mem_take z)
                · exact w.2.2.2.2.2 _ (List.mem_of_getElem? hqb) v (List.mem_of_mem_drop z))⟩ (by dsimp only; rw [List.length_set]; exact wl) (by dsimp only; rw [List.length_set]; exact ev_tl (ev_tl (ev_tl (ev_tl (ev_tl wv))))) hl
theorem ok_ireturn (d : decode cc pc = .ok (.ireturn, 1)) : ev_Ok cc nL hh own Ts Tn Tq cl isI CO pc a_iret := by
  intro p l e R s m args below meth c Q D cs ox A al0 k0 n0 call kont f hs o hs' cx hI hC hR hT hpc h hk
  obtain ⟨pc', lo, st⟩ := f
  cases hpc
  obtain ⟨⟨hx, hb, hml, hown, hts⟩, ⟨hKK, hA, hNw, hZU, hZS, hTq, hNc, hX⟩, hEx, hRc, hRs⟩ := cx
  match st, h with
  | [.int x], h =>
    cases h
    intro h1 h2
    refine ⟨Nat.le_refl _, Nat.le_refl _, fun al H locs ls w wl wv hl => ?_⟩
    exact hR _ rfl al H locs ls pc' .ireturn w wv rfl d h1 h2
theorem ok_lreturn (d : decode cc pc = .ok (.lreturn, 1)) : ev_Ok cc nL hh own Ts Tn Tq cl isI CO pc a_lret := by
  intro p l e R s m args below meth c Q D cs ox A al0 k0 n0 call kont f hs o hs' cx hI hC hR hT hpc h hk
  obtain ⟨pc', lo, st⟩ := f
  cases hpc
  obtain ⟨⟨hx, hb, hml, hown, hts⟩, ⟨hKK, hA, hNw, hZU, hZS, hTq, hNc, hX⟩, hEx, hRc, hRs⟩ := cx
  match st, h with
  | [.long x], h =>
    cases h
    intro h1 h2
    refine ⟨Nat.le_refl _, Nat.le_refl _, fun al H locs ls w wl wv hl => ?_⟩
    exact hR _ rfl al H locs ls pc' .lreturn w wv rfl d h1 h2
theorem ok_dreturn (d : decode cc pc = .ok (.dreturn, 1)) : ev_Ok cc nL hh own Ts Tn Tq cl isI CO pc a_dret := by
  intro p l e R s m args below meth c Q D cs ox A al0 k0 n0 call kont f hs o hs' cx hI hC hR hT hpc h hk
  obtain ⟨pc', lo, st⟩ := f
  cases hpc
  obtain ⟨⟨hx, hb, hml, hown, hts⟩, ⟨hKK, hA, hNw, hZU, hZS, hTq, hNc, hX⟩, hEx, hRc, hRs⟩ := cx
  match st, h with
  | [.double x], h =>
    cases h
    intro h1 h2
    refine ⟨Nat.le_refl _, Nat.le_refl _, fun al H locs ls w wl wv hl => ?_⟩
    exact hR _ rfl al H locs ls pc' .dreturn w wv rfl d h1 h2
theorem ok_areturn (d : decode cc pc = .ok (.areturn, 1)) : ev_Ok cc nL hh own Ts Tn Tq cl isI CO pc a_aret := by
  intro p l e R s m args below meth c Q D cs ox A al0 k0 n0 call kont f hs o hs' cx hI hC hR hT hpc h hk
  obtain ⟨pc', lo, st⟩ := f
  cases hpc
  obtain ⟨⟨hx, hb, hml, hown, hts⟩, ⟨hKK, hA, hNw, hZU, hZS, hTq, hNc, hX⟩, hEx, hRc, hRs⟩ := cx
  match st, h with
  | [.ref x], h =>
    cases h
    intro h1 h2
    refine ⟨Nat.le_refl _, Nat.le_refl _, fun al H locs ls w wl wv hl => ?_⟩
    exact hR _ rfl al H locs ls pc' .areturn w wv rfl d h1 h2
theorem ok_vreturn (d : decode cc pc = .ok (.return_, 1)) : ev_Ok cc nL hh own Ts Tn Tq cl isI CO pc a_vret := by
  intro p l e R s m args below meth c Q D cs ox A al0 k0 n0 call kont f hs o hs' cx hI hC hR hT hpc h hk
  obtain ⟨pc', lo, st⟩ := f
  cases hpc
  obtain ⟨⟨hx, hb, hml, hown, hts⟩, ⟨hKK, hA, hNw, hZU, hZS, hTq, hNc, hX⟩, hEx, hRc, hRs⟩ := cx
  match st, h with
  | [], h =>
    cases h
    intro h1 h2
    refine ⟨Nat.le_refl _, Nat.le_refl _, fun al H locs ls w wl wv hl => ?_⟩
    exact hR _ rfl al H locs ls pc' .return_ w wv rfl d h1 h2
theorem ok_tsw {dflt lo hi : Int} {offs : Array Int} {len t : Nat} {ts : List Nat} (d : decode cc pc = .ok (.tableswitch dflt lo hi offs, len)) (hts2 : ts.map (fun z : Nat => (z : Int) - (pc : Int)) = offs.toList) (hlen : (offs.size : Int) = hi - lo + 1) (ht : (pc : Int) + dflt = (t : Int)) : ev_Ok cc nL hh own Ts Tn Tq cl isI CO pc (a_tsw lo ts t) := by
  intro p l e R s m args below meth c Q D cs ox A al0 k0 n0 call kont f hs o hs' cx hI hC hR hT hpc h hk
  obtain ⟨pc', lo_, st⟩ := f
  cases hpc
  obtain ⟨⟨hx, hb, hml, hown, hts⟩, ⟨hKK, hA, hNw, hZU, hZS, hTq, hNc, hX⟩, hEx, hRc, hRs⟩ := cx
  match st, h with
  | .int x :: st, h =>
    have h : (if x.toInt < lo then kont (t, lo_, st) hs else match ts[(x.toInt - lo).toNat]? with | some t1 => kont (t1, lo_, st) hs | none => kont (t, lo_, st) hs) = some (o, hs') := h
    by_cases q : x.toInt < lo
    · rw [if_pos q] at h
      intro h1 h2
      obtain ⟨g1, g2, g3⟩ := hk _ _ h h1 h2
      refine ⟨g1, g2, fun al H locs ls w wl wv hl => ?_⟩
      exact lv_tableOut hx hb d (Or.inl q) ht (g3 al H locs ls w wl (ev_tl wv) hl)
    · rw [if_neg q] at h
      cases hq : ts[(x.toInt - lo).toNat]? with
      | none =>
        rw [hq] at h
        intro h1 h2
        obtain ⟨g1, g2, g3⟩ := hk _ _ h h1 h2
        refine ⟨g1, g2, fun al H locs ls w wl wv hl => ?_⟩
        have hl5 : offs.size = ts.length := by rw [← Array.length_toList, ← hts2, List.length_map]
        have hl6 := List.getElem?_eq_none_iff.mp hq
        exact lv_tableOut hx hb d (Or.inr (by omega)) ht (g3 al H locs ls w wl (ev_tl wv) hl)
      | some t1 =>
        rw [hq] at h
        have ho : offs[(x.toInt - lo).toNat]? = some ((t1 : Int) - (pc' : Int)) := by
          rw [← Array.getElem?_toList, ← hts2, List.getElem?_map, hq]; rfl
        have hl5 : offs.size = ts.length := by rw [← Array.length_toList, ← hts2, List.length_map]
        have hl6 := (List.getElem?_eq_some_iff.mp hq).1
        intro h1 h2
        obtain ⟨g1, g2, g3⟩ := hk _ _ h h1 h2
        refine ⟨g1, g2, fun al H locs ls w wl wv hl => ?_⟩
        exact lv_tableIn hx hb d q (by omega) ho (by omega) (g3 al H locs ls w wl (ev_tl wv) hl)
end EVO
