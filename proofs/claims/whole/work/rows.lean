section
/-! ===== BEGIN words of one list among another's, by their places ===== -/
theorem goodIn_r {big : List Cond} (ws : List Cond) (ps : List Nat) (hp : ws = ps.filterMap (fun i => big[i]?)) (h : ws.all goodWord = true) : GoodIn big ws := by
  intro w hw
  have h1 := List.all_eq_true.mp h w hw
  rw [hp] at hw
  obtain ⟨i, -, hi⟩ := List.mem_filterMap.mp hw
  have hm : w ∈ big := by first | exact List.mem_of_getElem? hi | exact List.getElem?_mem hi
  exact ⟨hm, good_of_word h1⟩
theorem goodIn_app {big a b : List Cond} (ha : GoodIn big a) (hb : GoodIn big b) : GoodIn big (a ++ b) := fun w h => (List.mem_append.mp h).elim (ha w) (hb w)
theorem goodIn_ca {big a b : List Cond} {c : Cond} (ha : GoodIn big (c :: a)) (hb : GoodIn big b) : GoodIn big (c :: (a ++ b)) := fun w h => (List.mem_cons.mp h).elim (fun e => ha w (List.mem_cons.mpr (Or.inl e))) (fun h => (List.mem_append.mp h).elim (fun h => ha w (List.mem_cons.mpr (Or.inr h))) (hb w))
theorem goodIn_sub {big ws : List Cond} (hm : ∀ w ∈ ws, w ∈ big) (h : ws.all goodWord = true) : GoodIn big ws := fun w hw => ⟨hm w hw, good_of_word (List.all_eq_true.mp h w hw)⟩
/-! ===== END ===== -/

/-! ===== BEGIN exceptions that leave a method, and their catching by the caller (launches without stack traces) ===== -/
section VXA
/-! The laws vx_back, vx_callV, vx_callS, vx_callSW, vx_throw0, vx_throwS follow proofs of the library, with one case more: JvmDerived/Free/Laws.lean (Back.of_free), Shelf42/LK1.lean (callV, callS), Shelf/KitTraced.lean (throwNew0V, throwNewS). -/
/-- where a method has thrown q: the class by its name, the cell, what was written, the world -/
def vx_T (XC : String → State → State → Prop) (st : State) (q : Addr) (t : State) (mc ms : Nat) (free : Addr → Prop) : Prop :=
  ∃ (E : String) (ce : Cell) (L : List Loc), XC E st t ∧ t.heap[q]? = some ce ∧ ce.vm = .none ∧ st.vm.findClass E = some ce.cls ∧ st.WarmedH t.vm ∧ st.sameButNew ({ t with vm := st.vm } : State) L mc ms ∧ ∀ z ∈ L, free z.base
def vx_Q (Qc : Array Value → State → Outcome → State → Prop) (XC : String → State → State → Prop) (mc ms : Nat) (free : Addr → Prop) : Array Value → State → Outcome → State → Prop := fun a st o t =>
  (Qc a st o t ∧ ∃ L, FrameEnd st o t L mc ms ∧ ∀ q ∈ L, free q.base) ∨ ∃ q, o = .threw q ∧ vx_T XC st q t mc ms free
/-- a callee that returns or throws -/
def vx_Met (l : Launch) (y : MethodName) (ws : List Cond) (rm : Room) (Pc : Array Value → State → Prop) (Qc : Array Value → State → Outcome → State → Prop) (XC : String → State → State → Prop) (mc ms : Nat) (free : Addr → Prop) : Prop :=
  MetFree l y (headSpec ws rm) Pc (fun _ _ _ _ _ => True) (vx_Q Qc XC mc ms free)
def vx_Post (XC : String → State → State → Prop) (mc ms : Nat) (free : Addr → Prop) : Pt → Array Value → Addr → Pt → Prop := fun A a q B =>
  ∃ (g : JFrame) (mk : MethodId) (t : State) (L : List Loc) (E : String) (ce : Cell), B.U.heap = t.heap ∧ B.U.vm = t.vm ∧ XC E (A.U.calling g mk a) t ∧ t.heap[q]? = some ce ∧ ce.vm = .none ∧ A.U.vm.findClass E = some ce.cls ∧ B.locs = A.locs ++ L ∧ (∀ z ∈ L, free z.base) ∧ B.cells = A.cells + mc ∧ B.slots = A.slots + ms
def vx_Back (l : Launch) (R : Room) (p : Program) (e : Env) (below : List Frame) (s : State) (sargs : Array Value) (y : MethodName) (len W9 : Nat)
    (Pre : Pt → Array Value → Prop) (Post : Pt → Array Value → Option Value → Pt → Prop) (PostX : Pt → Array Value → Addr → Pt → Prop) : Prop :=
  ∀ (m : MethodId) (meth : Method) (c : Code) (A : Pt) (g : JFrame) (ig : Instr) (mk : MethodId) (a : Array Value),
    Stand p l e R s m sargs below meth c A.U A.locs A.cells A.slots → g.method = m → g.locals.size = c.maxLocals → decode c.code g.pc = .ok (ig, len) →
    2 * g.monitorRoom + (g.stack.map fun v => v.category).sum ≤ W9 → A.U.methodNamed? y = some mk → Pre A a →
    (∃ (v : Option Value) (B : Pt), Stand p l e R s m sargs below meth c B.U B.locs B.cells B.slots ∧ Post A a v B ∧
      Steps p.tables e below (doInvoke e (A.U.setTop g) [] mk a).1 (B.U.setTop { g with pc := g.pc + len, stack := v.toList ++ g.stack })) ∨
    (∃ (q : Addr) (B : Pt), Stand p l e R s m sargs below meth c B.U B.locs B.cells B.slots ∧ PostX A a q B ∧
      Steps p.tables e below (doInvoke e (A.U.setTop g) [] mk a).1 ((B.U.setTop g).pushFrame (.throwing q)))
section Payer
variable {l : Launch} {R : Room} {p : Program} {e : Env} {below : List Frame} {s : State} {sargs : Array Value} {y : MethodName} {len W9 : Nat}
theorem vx_back {ws : List Cond} {rm : Room} {Pc : Array Value → State → Prop} {Qc : Array Value → State → Outcome → State → Prop} {XC : String → State → State → Prop} {mc ms : Nat} {free : Addr → Prop} {bytes : ByteArray} {maxL : Nat} {ret : Option FieldType}
    (hM : vx_Met l y ws rm Pc Qc XC mc ms free) (hblind : FrameBlind Pc) (hrc : rm.cells = mc) (hrs : rm.slots = ms)
    (hframes : rm.frames + 1 ≤ R.frames) (hlocals : W9 + (maxL + 11) + rm.locals ≤ R.locals)
    (hws : ∀ w ∈ ws, ∀ a' U, s.WarmedH U.vm → w.before a' U = true) (hcode : Cond.code y bytes maxL ret ∈ ws) (hinit : ∀ a' U, s.WarmedH U.vm → (Cond.initialized y.cls).before a' U = true) :
    vx_Back l R p e below s sargs y len W9 (PreOf R mc ms Pc) (PostOf Qc mc ms free) (vx_Post XC mc ms free) := by
  intro m meth c A g ig mk a X hg hsize hdg hW hn hp
  have h1 : (headSpec ws rm).pre.before a A.U = true := atoms_intro fun w hw => hws w hw _ _ X.warmed
  have h2 : (Cond.code y bytes maxL ret).before a A.U = true := hws _ hcode _ _ X.warmed
  have h3 : (Cond.initialized y.cls).before a A.U = true := hinit _ _ X.warmed
  have h4 : A.cells + (headSpec ws rm).room.cells ≤ R.cells := by rw [show (headSpec ws rm).room.cells = mc from hrc]; exact hp.1
  have h5 : A.slots + (headSpec ws rm).room.slots ≤ R.slots := by rw [show (headSpec ws rm).room.slots = ms from hrs]; exact hp.2.1
  have hPc : Pc a (A.U.calling g mk a) := hblind _ _ _ _ hp.2.2
  obtain ⟨U, Ls, c0, s0⟩ := A
  dsimp only [Pt.U, Pt.locs, Pt.cells, Pt.slots] at h1 h2 h3 h4 h5 X hn hPc ⊢
  obtain ⟨methY, cY, hmY, hcY, -, hlY, -, -, -, -⟩ := Cond.code_spec hn h2
  obtain ⟨kY, hkY, -⟩ := className_of_methodNamed hn
  have hinitY : kY.init = .initialized := Cond.initialized_spec (findClass_of_methodNamed hn) hkY h3
  have h : At U g.method c below := by rw [hg]; exact X.here
  have hlocals9 : W9 + (maxL + 11) + (headSpec ws rm).room.locals ≤ R.locals := hlocals
  have happ : (headSpec ws rm).appliesLoose y e.platform (U.calling g mk a) = true :=
    Spec.appliesLoose_calling (g := g) h hdg hn hkY hinitY
      (X.room_calling (g := g) (R' := (headSpec ws rm).room) hsize hmY hcY hframes (by rw [hlY]; omega) h4 h5) h1
  obtain ⟨mid, hmid⟩ := h.above
  have hfr : (U.setTop g).frames = (.java g :: mid) ++ below := by rw [State.frames_setTop' g h.top, hmid]; rfl
  obtain ⟨o, s₂, hsteps, -, hend, hq⟩ := Steps.callFree hM p X.admits X.cas X.clock (acts := []) hfr happ hPc trivial
  have hq' : vx_Q Qc XC mc ms free a (U.calling g mk a) o s₂ := hq
  rw [State.frames_setTop' g h.top] at hend
  obtain ⟨g₀, hg0⟩ := Option.isSome_iff_exists.mp h.top
  obtain ⟨r, hr⟩ := State.topJava?_eq_some.mp hg0
  have hr' : (({ U with heap := s₂.heap, slotsUsed := s₂.slotsUsed } : State).setVm s₂.vm).frames = .java g₀ :: r := hr
  rcases hq' with ⟨hqc, L, hfe, hL⟩ | ⟨q, rfl, E, ce, L, hx, hce, hcv, hcl, hW₂, hsm, hL⟩
  · obtain ⟨⟨v, rfl⟩, hW₂, e2, q2, q3, q4, q5, q6⟩ := id hfe
    have e3 : s₂ = ({ (U.calling g mk a).setFrames s₂.frames with heap := s₂.heap, slotsUsed := s₂.slotsUsed } : State).setVm s₂.vm := by
      have : s₂ = ({ s₂ with vm := (U.calling g mk a).vm } : State).setVm s₂.vm := rfl
      rw [e2] at this
      exact this
    obtain ⟨c₂, i₂, len₂, hc₂, hd₂, hf₂⟩ := hend
    have hW' : U.WarmedH s₂.vm := hW₂
    have hcc : c₂ = c := by
      have h1 : s₂.code? g.method = U.code? g.method := by
        rw [State.code?_eq, State.code?_eq, hW'.alike.method?]
      exact Option.some.inj (hc₂.symm.trans (h1.trans h.code))
    subst hcc
    have hlen : len₂ = len := by rw [hdg] at hd₂; cases hd₂; rfl
    subst hlen
    have hs₂ : s₂ = (({ U with heap := s₂.heap, slotsUsed := s₂.slotsUsed } : State).setVm s₂.vm).setTop { g with pc := g.pc + len₂, stack := v.toList ++ g.stack } := by
      refine e3.trans ?_
      rw [hf₂, State.calling_eq h.top, State.setFrames_setFrames, State.setTop_of_frames _ hr', hr]
      rfl
    have hsame : U.sameButNew ({ U with heap := s₂.heap, slotsUsed := s₂.slotsUsed } : State) L mc ms := by
      refine ⟨?_, q2, q3, q4, q5, q6⟩
      obtain ⟨t, ht, -⟩ := State.frames_cons hr
      show ({ U with heap := s₂.heap, slotsUsed := s₂.slotsUsed } : State) = { U.setFrames U.frames with heap := s₂.heap, slotsUsed := s₂.slotsUsed }
      rw [State.setFrames_self ht]
    subst hg
    refine Or.inl ⟨v, ⟨(({ U with heap := s₂.heap, slotsUsed := s₂.slotsUsed } : State).setVm s₂.vm), Ls ++ L, c0 + mc, s0 + ms⟩,
      ⟨X.admits, X.cas, X.clock, X.frames, X.room, X.hears, X.method, X.code, (X.here.setHeapUsed s₂.heap s₂.slotsUsed).setVm hW'.alike, X.tail, State.WarmedH.trans X.warmed hW', X.limits, X.bytes, X.same.trans (hsame.setVm s.vm)⟩,
      ⟨g, mk, s₂, L, rfl, rfl, hqc, rfl, hL, rfl, rfl⟩, ?_⟩
    show Steps p.tables e below _ ((({ U with heap := s₂.heap, slotsUsed := s₂.slotsUsed } : State).setVm s₂.vm).setTop { g with pc := g.pc + len₂, stack := v.toList ++ g.stack })
    rw [← hs₂]
    exact hsteps
  · obtain ⟨e2, q2, q3, q4, q5, q6⟩ := id hsm
    have e3 : s₂ = ({ (U.calling g mk a).setFrames s₂.frames with heap := s₂.heap, slotsUsed := s₂.slotsUsed } : State).setVm s₂.vm := by
      have : s₂ = ({ s₂ with vm := (U.calling g mk a).vm } : State).setVm s₂.vm := rfl
      rw [e2] at this
      exact this
    have hf₂ : s₂.frames = .throwing q :: .java g :: U.frames.tail := hend
    have hW' : U.WarmedH s₂.vm := hW₂
    have hs₂ : s₂ = ((({ U with heap := s₂.heap, slotsUsed := s₂.slotsUsed } : State).setVm s₂.vm).setTop g).pushFrame (.throwing q) := by
      refine e3.trans ?_
      rw [hf₂, State.calling_eq h.top, State.setFrames_setFrames, State.pushFrame, State.frames_setTop _ hr', State.setTop_of_frames _ hr', State.setFrames_setFrames, hr]
      rfl
    have hsame : U.sameButNew ({ U with heap := s₂.heap, slotsUsed := s₂.slotsUsed } : State) L mc ms := by
      refine ⟨?_, q2, q3, q4, q5, q6⟩
      obtain ⟨t, ht, -⟩ := State.frames_cons hr
      show ({ U with heap := s₂.heap, slotsUsed := s₂.slotsUsed } : State) = { U.setFrames U.frames with heap := s₂.heap, slotsUsed := s₂.slotsUsed }
      rw [State.setFrames_self ht]
    subst hg
    refine Or.inr ⟨q, ⟨(({ U with heap := s₂.heap, slotsUsed := s₂.slotsUsed } : State).setVm s₂.vm), Ls ++ L, c0 + mc, s0 + ms⟩,
      ⟨X.admits, X.cas, X.clock, X.frames, X.room, X.hears, X.method, X.code, (X.here.setHeapUsed s₂.heap s₂.slotsUsed).setVm hW'.alike, X.tail, State.WarmedH.trans X.warmed hW', X.limits, X.bytes, X.same.trans (hsame.setVm s.vm)⟩,
      ⟨g, mk, s₂, L, E, ce, rfl, rfl, hx, hce, hcv, hcl, rfl, hL, rfl, rfl⟩, ?_⟩
    show Steps p.tables e below _ (((({ U with heap := s₂.heap, slotsUsed := s₂.slotsUsed } : State).setVm s₂.vm).setTop g).pushFrame (.throwing q))
    rw [← hs₂]
    exact hsteps
end Payer
section Calls
variable {p : Program} {l : Launch} {e : Env} {R : Room} {s : State} {m : MethodId} {args : Array Value} {below : List Frame} {meth : Method} {c : Code} {T : State} {locs : List Loc} {cells slots : Nat}
theorem vx_callV (X : Stand p l e R s m args below meth c T locs cells slots) (hexec : p.tables.exec = Jvm.exec) {own C : String} {index : Nat} {y : MethodName} {bytes : ByteArray} {maxL : Nat} {ret : Option FieldType}
    (hown : s.vm.findClass own = some m.cls) (hlink : (Cond.methodLink own index y).before args s = true) (hinst : (Cond.instanceMethod y).before args s = true) (hsel : (Cond.selects C y y).before args s = true)
    (hcode : (Cond.code y bytes maxL ret).before args s = true) (hy : y.cls ≠ "java/lang/invoke/MethodHandle" ∧ y.cls ≠ "java/lang/invoke/VarHandle")
    {W9 : Nat} {Pre : Pt → Array Value → Prop} {Post : Pt → Array Value → Option Value → Pt → Prop} {PostX : Pt → Array Value → Addr → Pt → Prop} (hK : vx_Back l R p e below s args y 3 W9 Pre Post PostX)
    {b : Addr} {cellB : Cell} (hcell : T.heap[b]? = some cellB) (hobj : cellB.vm.isStatics = false) (hcls : s.vm.findClass C = some cellB.cls)
    {g : JFrame} (hg : g.method = m) (hsize : g.locals.size = c.maxLocals) {argsL rest : List Value} (hlen : ∀ sig, parseMethodDescriptor y.desc = some sig → argsL.length = sig.parameters.length)
    (hstack : g.stack = argsL.reverse ++ .ref b :: rest) (hW : 2 * g.monitorRoom + (rest.map fun v => v.category).sum ≤ W9) (hdg : decode c.code g.pc = .ok (.invokevirtual index, 3))
    (hpre : ∀ vm₁, s.WarmedH vm₁ → Pre ⟨T.setVm vm₁, locs, cells, slots⟩ (Value.ref b :: argsL).toArray) :
    (∃ (v : Option Value) (vm₁ : Vm) (B : Pt), s.WarmedH vm₁ ∧ Stand p l e R s m args below meth c B.U B.locs B.cells B.slots ∧ Post ⟨T.setVm vm₁, locs, cells, slots⟩ (Value.ref b :: argsL).toArray v B ∧
      ∀ target, Steps p.tables e below (B.U.setTop { g with pc := g.pc + 3, stack := v.toList ++ rest }) target → Steps p.tables e below (T.setTop g) target) ∨
    (∃ (q : Addr) (vm₁ : Vm) (B : Pt), s.WarmedH vm₁ ∧ Stand p l e R s m args below meth c B.U B.locs B.cells B.slots ∧ PostX ⟨T.setVm vm₁, locs, cells, slots⟩ (Value.ref b :: argsL).toArray q B ∧
      Steps p.tables e below (T.setTop g) ((B.U.setTop { g with stack := rest }).pushFrame (.throwing q))) := by
  obtain ⟨mk, methM, hnamed, hmethM, hstM, habM⟩ := Cond.instanceMethod_spec hinst
  obtain ⟨methM', cM, hmethM', -, -, -, -, -, -, hsigM⟩ := Cond.code_spec hnamed hcode
  cases hmethM.symm.trans hmethM'
  obtain ⟨c2, r2, m2, q1, q2, q3, q4, kP, hkP, hkPi⟩ := Cond.selects_spec hsel
  cases hcls.symm.trans q1
  cases (State.methodFound?_of_named hnamed hy).symm.trans q2
  cases hnamed.symm.trans q3
  have hselP : selectMethod e.platform s.vm cellB.cls mk = .method mk := by rw [Launch.admits_selectMethod X.admits]; exact q4
  obtain ⟨vm₁, X₁, hstep₁⟩ := X.invokevirtual hexec hown hlink hnamed hmethM hstM hkP hkPi hy (a := b) (cell := cellB) hcell
    (fun z h => by rw [h] at hobj; cases hobj) hselP hmethM habM hkP hkPi (g := g) hg (argsL := argsL) (rest := rest) (hlen _ hsigM) hstack hdg
  rcases hK m meth c ⟨T.setVm vm₁, locs, cells, slots⟩ { g with stack := rest } (.invokevirtual index) mk (Value.ref b :: argsL).toArray X₁ hg hsize hdg hW (X₁.named hnamed) (hpre vm₁ X₁.warmed) with ⟨v, B, X', hpost, hsteps⟩ | ⟨q, B, X', hpost, hsteps⟩
  · exact Or.inl ⟨v, vm₁, B, X₁.warmed, X', hpost, fun target h => hstep₁ _ fun acts => by rw [doInvoke_state]; exact hsteps.trans h⟩
  · exact Or.inr ⟨q, vm₁, B, X₁.warmed, X', hpost, hstep₁ _ fun acts => by rw [doInvoke_state]; exact hsteps⟩
theorem vx_callS (X : Stand p l e R s m args below meth c T locs cells slots) (hexec : p.tables.exec = Jvm.exec) {own : String} {index : Nat} {y : MethodName} {bytes : ByteArray} {maxL : Nat} {ret : Option FieldType}
    (hown : s.vm.findClass own = some m.cls) (hlink : (Cond.methodLink own index y).before args s = true) (hstat : (Cond.static y).before args s = true) (hinit : (Cond.initialized y.cls).before args s = true)
    (hcode : (Cond.code y bytes maxL ret).before args s = true) (hy : y.cls ≠ "java/lang/invoke/MethodHandle" ∧ y.cls ≠ "java/lang/invoke/VarHandle")
    {W9 : Nat} {Pre : Pt → Array Value → Prop} {Post : Pt → Array Value → Option Value → Pt → Prop} {PostX : Pt → Array Value → Addr → Pt → Prop} (hK : vx_Back l R p e below s args y 3 W9 Pre Post PostX)
    {g : JFrame} (hg : g.method = m) (hsize : g.locals.size = c.maxLocals) {argsL rest : List Value} (hlen : ∀ sig, parseMethodDescriptor y.desc = some sig → argsL.length = sig.parameters.length)
    (hstack : g.stack = argsL.reverse ++ rest) (hW : 2 * g.monitorRoom + (rest.map fun v => v.category).sum ≤ W9) (hdg : decode c.code g.pc = .ok (.invokestatic index, 3))
    (hpre : ∀ vm₁, s.WarmedH vm₁ → Pre ⟨T.setVm vm₁, locs, cells, slots⟩ argsL.toArray) :
    (∃ (v : Option Value) (vm₁ : Vm) (B : Pt), s.WarmedH vm₁ ∧ Stand p l e R s m args below meth c B.U B.locs B.cells B.slots ∧ Post ⟨T.setVm vm₁, locs, cells, slots⟩ argsL.toArray v B ∧
      ∀ target, Steps p.tables e below (B.U.setTop { g with pc := g.pc + 3, stack := v.toList ++ rest }) target → Steps p.tables e below (T.setTop g) target) ∨
    (∃ (q : Addr) (vm₁ : Vm) (B : Pt), s.WarmedH vm₁ ∧ Stand p l e R s m args below meth c B.U B.locs B.cells B.slots ∧ PostX ⟨T.setVm vm₁, locs, cells, slots⟩ argsL.toArray q B ∧
      Steps p.tables e below (T.setTop g) ((B.U.setTop { g with stack := rest }).pushFrame (.throwing q))) := by
  obtain ⟨mk, hnamed⟩ := Cond.code_named hcode
  obtain ⟨methM, cM, hmethM, -, -, -, -, -, -, hsigM⟩ := Cond.code_spec hnamed hcode
  have hstatic : methM.isStatic = true := Cond.static_spec hnamed hmethM hstat
  obtain ⟨kP, hkP, -⟩ := className_of_methodNamed hnamed
  have hinitP : kP.init = .initialized := Cond.initialized_spec (findClass_of_methodNamed hnamed) hkP hinit
  obtain ⟨vm₁, X₁, hstep₁⟩ := X.invokestatic hexec hown hlink hnamed hmethM hstatic hkP hinitP hy (g := g) hg (argsL := argsL) (rest := rest) (hlen _ hsigM) hstack hdg
  rcases hK m meth c ⟨T.setVm vm₁, locs, cells, slots⟩ { g with stack := rest } (.invokestatic index) mk argsL.toArray X₁ hg hsize hdg hW (X₁.named hnamed) (hpre vm₁ X₁.warmed) with ⟨v, B, X', hpost, hsteps⟩ | ⟨q, B, X', hpost, hsteps⟩
  · exact Or.inl ⟨v, vm₁, B, X₁.warmed, X', hpost, fun target h => hstep₁ _ fun acts => by rw [doInvoke_state]; exact hsteps.trans h⟩
  · exact Or.inr ⟨q, vm₁, B, X₁.warmed, X', hpost, hstep₁ _ fun acts => by rw [doInvoke_state]; exact hsteps⟩
end Calls
theorem vx_cls {s : State} {T : State} {vm₁ : Vm} {E : String} {k : ClassId} (hW : s.WarmedH vm₁) (h : (T.setVm vm₁).vm.findClass E = some k) : s.vm.findClass E = some k := by
  have h1 : vm₁.findClass E = some k := h
  rw [hW.alike.findClass] at h1
  exact h1
/-- the method's frame g, with q thrown over it -/
def vx_W (p : Program) (l : Launch) (e : Env) (R : Room) (s : State) (m : MethodId) (args : Array Value) (below : List Frame) (meth : Method) (c : Code) (H : Heap) (locs : List Loc) (cells slots : Nat) (Q : State → Prop) (g : JFrame) (q : Addr) : Prop :=
  ∀ T : State, T.heap = H → Stand p l e R s m args below meth c T locs cells slots → ∃ t, Steps p.tables e below ((T.setTop g).pushFrame (.throwing q)) t ∧ Q t
def vx_Run (p : Program) (l : Launch) (e : Env) (R : Room) (s : State) (m : MethodId) (args : Array Value) (below : List Frame) (meth : Method) (c : Code) (H : Heap) (locs : List Loc) (cells slots mc ms : Nat) (g : JFrame) (rest : List Value) (Qa : State → Outcome → State → Prop) (XC : String → State → State → Prop) (free : Addr → Prop) : Prop :=
  ∀ T : State, T.heap = H → Stand p l e R s m args below meth c T locs cells slots →
    (∃ (v : Option Value) (st₀ t T' : State) (L : List Loc), st₀.heap = H ∧ Stand p l e R s m args below meth c T' (locs ++ L) (cells + mc) (slots + ms) ∧ (∀ q ∈ L, free q.base) ∧ T'.heap = t.heap ∧ T'.vm = t.vm ∧ Qa st₀ (.returned v) t ∧
      Goes p e below T g T' { g with pc := g.pc + 3, stack := v.toList ++ rest }) ∨
    (∃ (q : Addr) (st₀ t T' : State) (L : List Loc) (E : String) (ce : Cell), st₀.heap = H ∧ Stand p l e R s m args below meth c T' (locs ++ L) (cells + mc) (slots + ms) ∧ (∀ z ∈ L, free z.base) ∧ T'.heap = t.heap ∧ T'.vm = t.vm ∧ XC E st₀ t ∧ t.heap[q]? = some ce ∧ ce.vm = .none ∧ s.vm.findClass E = some ce.cls ∧
      Steps p.tables e below (T.setTop g) ((T'.setTop { g with stack := rest }).pushFrame (.throwing q)))
def vx_X {S : Type} (px : S → Prop) (B : String → S → State → Prop) (A : Nat → Prop) : String → State → State → Prop := fun E st t => ∃ u : S, px u ∧ B E u t ∧ va_F A st t
section Runs
variable {p : Program} {l : Launch} {e : Env} {R : Room} {s : State} {m : MethodId} {args : Array Value} {below : List Frame} {meth : Method} {c : Code} {H : Heap} {locs : List Loc} {cells slots : Nat}
variable {y : MethodName} {bytes cc : ByteArray} {maxL nL mc ms n index : Nat} {ret : Option FieldType} {ws : List Cond} {rm : Room} {Pc : Array Value → State → Prop} {Qc : Array Value → State → Outcome → State → Prop} {XC : String → State → State → Prop} {free : Addr → Prop} {Ts : List Cond} {own C : String} {b : Addr} {As rest : List Value} {g : JFrame}
theorem vx_callBack (cb : CallB R s args own index y bytes maxL ret ws rm mc ms n) (hM : vx_Met l y ws rm Pc Qc XC mc ms free) (hbl : FrameBlind Pc) : vx_Back l R p e below s args y 3 8 (PreOf R mc ms Pc) (PostOf Qc mc ms free) (vx_Post XC mc ms free) := by
  obtain ⟨hrc, hrs, hfr, hlo, hws, hcw, -, hini, -⟩ := cb
  exact vx_back (bytes := bytes) (maxL := maxL) (ret := ret) hM hbl hrc hrs hfr hlo hws hcw (fun a' U hW => word_at hW (Or.inl (by first | rfl | simp [Cond.onTables, Cond.keeps, Cond.steady])) hini)
theorem vx_runV (S : CallFix p m c cc nL s args Ts own) (hM : vx_Met l y ws rm Pc Qc XC mc ms free) (cw : CallW R s args own C index y bytes maxL ret ws rm mc ms n) (hp : PreV s H C b Pc As)
    (hg : g.method = m) (hn : As.length = n) (hsize : g.locals.size = nL) (hstack : g.stack = As.reverse ++ .ref b :: rest) (hW : 2 * g.monitorRoom + (rest.map fun v => v.category).sum ≤ 8) (hdg : decode cc g.pc = .ok (.invokevirtual index, 3)) (hf : cells + mc ≤ R.cells ∧ slots + ms ≤ R.slots) :
    vx_Run p l e R s m args below meth c H locs cells slots mc ms g rest (Qc (Value.ref b :: As).toArray) XC free := by
  have hK : vx_Back l R p e below s args y 3 8 (PreOf R mc ms Pc) (PostOf Qc mc ms free) (vx_Post XC mc ms free) := vx_callBack cw.1 hM hp.1
  obtain ⟨⟨-, -, -, -, -, -, hcode, -, hy, hlen, hl⟩, hin, hse⟩ := cw
  obtain ⟨hx, hb, hml, ho, -⟩ := S
  obtain ⟨-, ⟨cellB, hcB, hoB, hclB⟩, hPc⟩ := hp
  intro T hT X
  rcases vx_callV X hx (C := C) (bytes := bytes) (maxL := maxL) (ret := ret) ho hl hin hse hcode hy hK (by rw [hT]; exact hcB) hoB hclB hg (hsize.trans hml.symm) (argsL := As) (rest := rest) (fun sig h => hn.trans (hlen sig h)) hstack hW (by rw [hb]; exact hdg)
    (fun vm₁ hW₁ => ⟨hf.1, hf.2, hPc (T.setVm vm₁) hT hW₁⟩) with ⟨v, vm₁, ⟨U', l2, c2, s2⟩, hW₁, X', ⟨g', mk, t, L, e1, e2, hq, h1, hL, h2, h3⟩, st⟩ | ⟨q, vm₁, ⟨U', l2, c2, s2⟩, hW₁, X', ⟨g', mk, t, L, E, ce, e1, e2, hq, hce, hcv, hcl, h1, hL, h2, h3⟩, st⟩
  · dsimp only [Pt.U, Pt.locs, Pt.cells, Pt.slots] at X' e1 e2 h1 h2 h3 st
    subst h1; subst h2; subst h3
    exact Or.inl ⟨v, (T.setVm vm₁).calling g' mk (Value.ref b :: As).toArray, t, U', L, hT, X', hL, e1, e2, hq, st⟩
  · dsimp only [Pt.U, Pt.locs, Pt.cells, Pt.slots] at X' e1 e2 h1 h2 h3 st hcl
    subst h1; subst h2; subst h3
    exact Or.inr ⟨q, (T.setVm vm₁).calling g' mk (Value.ref b :: As).toArray, t, U', L, E, ce, hT, X', hL, e1, e2, hq, hce, hcv, vx_cls hW₁ hcl, st⟩
theorem vx_runS (S : CallFix p m c cc nL s args Ts own) (hM : vx_Met l y ws rm Pc Qc XC mc ms free) (cw : CallB R s args own index y bytes maxL ret ws rm mc ms n ∧ (Cond.static y).before args s = true) (hp : PreS s H Pc As)
    (hg : g.method = m) (hn : As.length = n) (hsize : g.locals.size = nL) (hstack : g.stack = As.reverse ++ rest) (hW : 2 * g.monitorRoom + (rest.map fun v => v.category).sum ≤ 8) (hdg : decode cc g.pc = .ok (.invokestatic index, 3)) (hf : cells + mc ≤ R.cells ∧ slots + ms ≤ R.slots) :
    vx_Run p l e R s m args below meth c H locs cells slots mc ms g rest (Qc As.toArray) XC free := by
  have hK : vx_Back l R p e below s args y 3 8 (PreOf R mc ms Pc) (PostOf Qc mc ms free) (vx_Post XC mc ms free) := vx_callBack cw.1 hM hp.1
  obtain ⟨⟨-, -, -, -, -, -, hcode, hini, hy, hlen, hl⟩, hstt⟩ := cw
  obtain ⟨hx, hb, hml, ho, -⟩ := S
  intro T hT X
  rcases vx_callS X hx (bytes := bytes) (maxL := maxL) (ret := ret) ho hl hstt hini hcode hy hK hg (hsize.trans hml.symm) (argsL := As) (rest := rest) (fun sig h => hn.trans (hlen sig h)) hstack hW (by rw [hb]; exact hdg)
    (fun vm₁ hW₁ => ⟨hf.1, hf.2, hp.2 (T.setVm vm₁) hT hW₁⟩) with ⟨v, vm₁, ⟨U', l2, c2, s2⟩, hW₁, X', ⟨g', mk, t, L, e1, e2, hq, h1, hL, h2, h3⟩, st⟩ | ⟨q, vm₁, ⟨U', l2, c2, s2⟩, hW₁, X', ⟨g', mk, t, L, E, ce, e1, e2, hq, hce, hcv, hcl, h1, hL, h2, h3⟩, st⟩
  · dsimp only [Pt.U, Pt.locs, Pt.cells, Pt.slots] at X' e1 e2 h1 h2 h3 st
    subst h1; subst h2; subst h3
    exact Or.inl ⟨v, (T.setVm vm₁).calling g' mk As.toArray, t, U', L, hT, X', hL, e1, e2, hq, st⟩
  · dsimp only [Pt.U, Pt.locs, Pt.cells, Pt.slots] at X' e1 e2 h1 h2 h3 st hcl
    subst h1; subst h2; subst h3
    exact Or.inr ⟨q, (T.setVm vm₁).calling g' mk As.toArray, t, U', L, E, ce, hT, X', hL, e1, e2, hq, hce, hcv, vx_cls hW₁ hcl, st⟩
end Runs
section Rows
variable {p : Program} {l : Launch} {e : Env} {R : Room} {s : State} {m : MethodId} {args : Array Value} {below : List Frame} {meth : Method} {c : Code} {H : Heap} {locs : List Loc} {cells slots : Nat} {Q : State → Prop}
variable {mc ms : Nat} {free : Addr → Prop} {A0 A1 : Nat → Prop} {H0 : Heap} {a : Array Value} {pc : Nat} {ls : Array Slot} {st0 rest : List Value}
theorem vx_keep {st₀ t T' : State} {L : List Loc} (h0 : st₀.heap = H) (e1 : T'.heap = t.heap) (hS : va_S A0 H0 H locs) (hA : ∀ q, q < H.size → A1 q → A0 q) (hf : ∀ q, free q → A0 q) (hL : ∀ q ∈ L, free q.base) (hF : va_F A1 st₀ t) :
    H.size ≤ T'.heap.size ∧ (∀ q : Nat, q < H.size → ¬ A1 q → T'.heap[q]? = H[q]?) ∧ va_S A0 H0 T'.heap (locs ++ L) := by
  obtain ⟨hz, hk⟩ := hF
  rw [h0] at hz hk
  exact ⟨by rw [e1]; exact hz, fun q h1 h2 => by rw [e1]; exact hk q h1 h2,
    ⟨Nat.le_trans hS.1 (by rw [e1]; exact hz), fun q h1 h2 => by rw [e1, hk q (Nat.lt_of_lt_of_le h1 hS.1) (fun z => h2 (hA q (Nat.lt_of_lt_of_le h1 hS.1) z))]; exact hS.2.1 q h1 h2, fun q hq => by
      rcases List.mem_append.mp hq with h | h
      · exact hS.2.2 q h
      · exact hf _ (hL q h)⟩⟩
theorem vx_calli {S SX : Type} {post : Int32 → S → Prop} {px : SX → Prop} {B : S → State → Prop} {BX : String → SX → State → Prop} {AX : Nat → Prop} (hr : vx_Run p l e R s m args below meth c H locs cells slots mc ms (F0 m pc ls st0) rest (va_Qi post B A1 a) (vx_X px BX AX) free) (hS : va_S A0 H0 H locs) (hA : ∀ q, q < H.size → A1 q → A0 q) (hf : ∀ q, free q → A0 q) (hAX : ∀ q, q < H.size → AX q → A0 q)
    (kx : ∀ (E : String) (ce : Cell) (q9 : Addr) (u : SX) (t : State) (H1 : Heap) (locs1 : List Loc), t.heap = H1 → s.vm.Alike t.vm → px u → BX E u t → H.size ≤ H1.size → (∀ q : Nat, q < H.size → ¬ AX q → H1[q]? = H[q]?) → va_S A0 H0 H1 locs1 → H1[q9]? = some ce → ce.vm = .none → s.vm.findClass E = some ce.cls → vx_W p l e R s m args below meth c H1 locs1 (cells + mc) (slots + ms) Q (F0 m pc ls rest) q9)
    (kk : ∀ (r : Int32) (u : S) (t : State) (H1 : Heap) (locs1 : List Loc), t.heap = H1 → s.vm.Alike t.vm → post r u → B u t → H.size ≤ H1.size → (∀ q : Nat, q < H.size → ¬ A1 q → H1[q]? = H[q]?) → va_S A0 H0 H1 locs1 → W p l e R s m args below meth c H1 locs1 (cells + mc) (slots + ms) Q (F0 m (pc + 3) ls (.int r :: rest))) : W p l e R s m args below meth c H locs cells slots Q (F0 m pc ls st0) := by
  intro T hT X
  rcases hr T hT X with ⟨v, st₀, t, T', L, h0, X', hL, e1, e2, ⟨⟨r, u, hv, hp, hb⟩, hF⟩, st⟩ | ⟨q, st₀, t, T', L, E, ce, h0, X', hL, e1, e2, ⟨u, hp, hb, hF⟩, hce, hcv, hcl, st⟩
  · cases hv
    obtain ⟨k1, k2, k3⟩ := vx_keep h0 e1 hS hA hf hL hF
    obtain ⟨t2, a1, b1⟩ := kk r u t T'.heap (locs ++ L) e1.symm (by rw [← e2]; exact X'.warmed.alike) hp hb k1 k2 k3 T' rfl X'
    exact ⟨t2, st t2 a1, b1⟩
  · obtain ⟨k1, k2, k3⟩ := vx_keep h0 e1 hS hAX hf hL hF
    obtain ⟨t2, a1, b1⟩ := kx E ce q u t T'.heap (locs ++ L) e1.symm (by rw [← e2]; exact X'.warmed.alike) hp hb k1 k2 k3 (by rw [e1]; exact hce) hcv hcl T' rfl X'
    exact ⟨t2, st.trans a1, b1⟩
theorem vx_calll {S SX : Type} {post : Int64 → S → Prop} {px : SX → Prop} {B : S → State → Prop} {BX : String → SX → State → Prop} {AX : Nat → Prop} (hr : vx_Run p l e R s m args below meth c H locs cells slots mc ms (F0 m pc ls st0) rest (va_Ql post B A1 a) (vx_X px BX AX) free) (hS : va_S A0 H0 H locs) (hA : ∀ q, q < H.size → A1 q → A0 q) (hf : ∀ q, free q → A0 q) (hAX : ∀ q, q < H.size → AX q → A0 q)
    (kx : ∀ (E : String) (ce : Cell) (q9 : Addr) (u : SX) (t : State) (H1 : Heap) (locs1 : List Loc), t.heap = H1 → s.vm.Alike t.vm → px u → BX E u t → H.size ≤ H1.size → (∀ q : Nat, q < H.size → ¬ AX q → H1[q]? = H[q]?) → va_S A0 H0 H1 locs1 → H1[q9]? = some ce → ce.vm = .none → s.vm.findClass E = some ce.cls → vx_W p l e R s m args below meth c H1 locs1 (cells + mc) (slots + ms) Q (F0 m pc ls rest) q9)
    (kk : ∀ (r : Int64) (u : S) (t : State) (H1 : Heap) (locs1 : List Loc), t.heap = H1 → s.vm.Alike t.vm → post r u → B u t → H.size ≤ H1.size → (∀ q : Nat, q < H.size → ¬ A1 q → H1[q]? = H[q]?) → va_S A0 H0 H1 locs1 → W p l e R s m args below meth c H1 locs1 (cells + mc) (slots + ms) Q (F0 m (pc + 3) ls (.long r :: rest))) : W p l e R s m args below meth c H locs cells slots Q (F0 m pc ls st0) := by
  intro T hT X
  rcases hr T hT X with ⟨v, st₀, t, T', L, h0, X', hL, e1, e2, ⟨⟨r, u, hv, hp, hb⟩, hF⟩, st⟩ | ⟨q, st₀, t, T', L, E, ce, h0, X', hL, e1, e2, ⟨u, hp, hb, hF⟩, hce, hcv, hcl, st⟩
  · cases hv
    obtain ⟨k1, k2, k3⟩ := vx_keep h0 e1 hS hA hf hL hF
    obtain ⟨t2, a1, b1⟩ := kk r u t T'.heap (locs ++ L) e1.symm (by rw [← e2]; exact X'.warmed.alike) hp hb k1 k2 k3 T' rfl X'
    exact ⟨t2, st t2 a1, b1⟩
  · obtain ⟨k1, k2, k3⟩ := vx_keep h0 e1 hS hAX hf hL hF
    obtain ⟨t2, a1, b1⟩ := kx E ce q u t T'.heap (locs ++ L) e1.symm (by rw [← e2]; exact X'.warmed.alike) hp hb k1 k2 k3 (by rw [e1]; exact hce) hcv hcl T' rfl X'
    exact ⟨t2, st.trans a1, b1⟩
theorem vx_callf {S SX : Type} {post : UInt32 → S → Prop} {px : SX → Prop} {B : S → State → Prop} {BX : String → SX → State → Prop} {AX : Nat → Prop} (hr : vx_Run p l e R s m args below meth c H locs cells slots mc ms (F0 m pc ls st0) rest (va_Qf post B A1 a) (vx_X px BX AX) free) (hS : va_S A0 H0 H locs) (hA : ∀ q, q < H.size → A1 q → A0 q) (hf : ∀ q, free q → A0 q) (hAX : ∀ q, q < H.size → AX q → A0 q)
    (kx : ∀ (E : String) (ce : Cell) (q9 : Addr) (u : SX) (t : State) (H1 : Heap) (locs1 : List Loc), t.heap = H1 → s.vm.Alike t.vm → px u → BX E u t → H.size ≤ H1.size → (∀ q : Nat, q < H.size → ¬ AX q → H1[q]? = H[q]?) → va_S A0 H0 H1 locs1 → H1[q9]? = some ce → ce.vm = .none → s.vm.findClass E = some ce.cls → vx_W p l e R s m args below meth c H1 locs1 (cells + mc) (slots + ms) Q (F0 m pc ls rest) q9)
    (kk : ∀ (r : UInt32) (u : S) (t : State) (H1 : Heap) (locs1 : List Loc), t.heap = H1 → s.vm.Alike t.vm → post r u → B u t → H.size ≤ H1.size → (∀ q : Nat, q < H.size → ¬ A1 q → H1[q]? = H[q]?) → va_S A0 H0 H1 locs1 → W p l e R s m args below meth c H1 locs1 (cells + mc) (slots + ms) Q (F0 m (pc + 3) ls (.float r :: rest))) : W p l e R s m args below meth c H locs cells slots Q (F0 m pc ls st0) := by
  intro T hT X
  rcases hr T hT X with ⟨v, st₀, t, T', L, h0, X', hL, e1, e2, ⟨⟨r, u, hv, hp, hb⟩, hF⟩, st⟩ | ⟨q, st₀, t, T', L, E, ce, h0, X', hL, e1, e2, ⟨u, hp, hb, hF⟩, hce, hcv, hcl, st⟩
  · cases hv
    obtain ⟨k1, k2, k3⟩ := vx_keep h0 e1 hS hA hf hL hF
    obtain ⟨t2, a1, b1⟩ := kk r u t T'.heap (locs ++ L) e1.symm (by rw [← e2]; exact X'.warmed.alike) hp hb k1 k2 k3 T' rfl X'
    exact ⟨t2, st t2 a1, b1⟩
  · obtain ⟨k1, k2, k3⟩ := vx_keep h0 e1 hS hAX hf hL hF
    obtain ⟨t2, a1, b1⟩ := kx E ce q u t T'.heap (locs ++ L) e1.symm (by rw [← e2]; exact X'.warmed.alike) hp hb k1 k2 k3 (by rw [e1]; exact hce) hcv hcl T' rfl X'
    exact ⟨t2, st.trans a1, b1⟩
theorem vx_calld {S SX : Type} {post : UInt64 → S → Prop} {px : SX → Prop} {B : S → State → Prop} {BX : String → SX → State → Prop} {AX : Nat → Prop} (hr : vx_Run p l e R s m args below meth c H locs cells slots mc ms (F0 m pc ls st0) rest (va_Qd post B A1 a) (vx_X px BX AX) free) (hS : va_S A0 H0 H locs) (hA : ∀ q, q < H.size → A1 q → A0 q) (hf : ∀ q, free q → A0 q) (hAX : ∀ q, q < H.size → AX q → A0 q)
    (kx : ∀ (E : String) (ce : Cell) (q9 : Addr) (u : SX) (t : State) (H1 : Heap) (locs1 : List Loc), t.heap = H1 → s.vm.Alike t.vm → px u → BX E u t → H.size ≤ H1.size → (∀ q : Nat, q < H.size → ¬ AX q → H1[q]? = H[q]?) → va_S A0 H0 H1 locs1 → H1[q9]? = some ce → ce.vm = .none → s.vm.findClass E = some ce.cls → vx_W p l e R s m args below meth c H1 locs1 (cells + mc) (slots + ms) Q (F0 m pc ls rest) q9)
    (kk : ∀ (r : UInt64) (u : S) (t : State) (H1 : Heap) (locs1 : List Loc), t.heap = H1 → s.vm.Alike t.vm → post r u → B u t → H.size ≤ H1.size → (∀ q : Nat, q < H.size → ¬ A1 q → H1[q]? = H[q]?) → va_S A0 H0 H1 locs1 → W p l e R s m args below meth c H1 locs1 (cells + mc) (slots + ms) Q (F0 m (pc + 3) ls (.double r :: rest))) : W p l e R s m args below meth c H locs cells slots Q (F0 m pc ls st0) := by
  intro T hT X
  rcases hr T hT X with ⟨v, st₀, t, T', L, h0, X', hL, e1, e2, ⟨⟨r, u, hv, hp, hb⟩, hF⟩, st⟩ | ⟨q, st₀, t, T', L, E, ce, h0, X', hL, e1, e2, ⟨u, hp, hb, hF⟩, hce, hcv, hcl, st⟩
  · cases hv
    obtain ⟨k1, k2, k3⟩ := vx_keep h0 e1 hS hA hf hL hF
    obtain ⟨t2, a1, b1⟩ := kk r u t T'.heap (locs ++ L) e1.symm (by rw [← e2]; exact X'.warmed.alike) hp hb k1 k2 k3 T' rfl X'
    exact ⟨t2, st t2 a1, b1⟩
  · obtain ⟨k1, k2, k3⟩ := vx_keep h0 e1 hS hAX hf hL hF
    obtain ⟨t2, a1, b1⟩ := kx E ce q u t T'.heap (locs ++ L) e1.symm (by rw [← e2]; exact X'.warmed.alike) hp hb k1 k2 k3 (by rw [e1]; exact hce) hcv hcl T' rfl X'
    exact ⟨t2, st.trans a1, b1⟩
theorem vx_callv {S SX : Type} {post : S → Prop} {px : SX → Prop} {B : S → State → Prop} {BX : String → SX → State → Prop} {AX : Nat → Prop} (hr : vx_Run p l e R s m args below meth c H locs cells slots mc ms (F0 m pc ls st0) rest (va_Qv post B A1 a) (vx_X px BX AX) free) (hS : va_S A0 H0 H locs) (hA : ∀ q, q < H.size → A1 q → A0 q) (hf : ∀ q, free q → A0 q) (hAX : ∀ q, q < H.size → AX q → A0 q)
    (kx : ∀ (E : String) (ce : Cell) (q9 : Addr) (u : SX) (t : State) (H1 : Heap) (locs1 : List Loc), t.heap = H1 → s.vm.Alike t.vm → px u → BX E u t → H.size ≤ H1.size → (∀ q : Nat, q < H.size → ¬ AX q → H1[q]? = H[q]?) → va_S A0 H0 H1 locs1 → H1[q9]? = some ce → ce.vm = .none → s.vm.findClass E = some ce.cls → vx_W p l e R s m args below meth c H1 locs1 (cells + mc) (slots + ms) Q (F0 m pc ls rest) q9)
    (kk : ∀ (u : S) (t : State) (H1 : Heap) (locs1 : List Loc), t.heap = H1 → s.vm.Alike t.vm → post u → B u t → H.size ≤ H1.size → (∀ q : Nat, q < H.size → ¬ A1 q → H1[q]? = H[q]?) → va_S A0 H0 H1 locs1 → W p l e R s m args below meth c H1 locs1 (cells + mc) (slots + ms) Q (F0 m (pc + 3) ls (rest))) : W p l e R s m args below meth c H locs cells slots Q (F0 m pc ls st0) := by
  intro T hT X
  rcases hr T hT X with ⟨v, st₀, t, T', L, h0, X', hL, e1, e2, ⟨⟨u, hv, hp, hb⟩, hF⟩, st⟩ | ⟨q, st₀, t, T', L, E, ce, h0, X', hL, e1, e2, ⟨u, hp, hb, hF⟩, hce, hcv, hcl, st⟩
  · cases hv
    obtain ⟨k1, k2, k3⟩ := vx_keep h0 e1 hS hA hf hL hF
    obtain ⟨t2, a1, b1⟩ := kk u t T'.heap (locs ++ L) e1.symm (by rw [← e2]; exact X'.warmed.alike) hp hb k1 k2 k3 T' rfl X'
    exact ⟨t2, st t2 a1, b1⟩
  · obtain ⟨k1, k2, k3⟩ := vx_keep h0 e1 hS hAX hf hL hF
    obtain ⟨t2, a1, b1⟩ := kx E ce q u t T'.heap (locs ++ L) e1.symm (by rw [← e2]; exact X'.warmed.alike) hp hb k1 k2 k3 (by rw [e1]; exact hce) hcv hcl T' rfl X'
    exact ⟨t2, st.trans a1, b1⟩
/-- caught by the row x of this method's table; the rows ahead don't take it -/
theorem vx_catch {own name : String} {E : String} {ce : Cell} {q : Addr} (hown : s.vm.findClass own = some m.cls) (pre : List ExceptionTableEntry) (x : ExceptionTableEntry) (suf : List ExceptionTableEntry) (hsplit : c.exceptionTable.toList = pre ++ x :: suf)
    (hpass : ∀ z ∈ pre, covers z pc = false ∨ (z.catchType ≠ 0 ∧ ∃ nm : String, (Cond.classLink own z.catchType nm).before args s = true ∧ va_Nc E nm s)) (hx : covers x pc = true) (h0 : x.catchType ≠ 0)
    (hlink : (Cond.classLink own x.catchType name).before args s = true) (hcast : (Cond.castable E name).before args s = true) (hcell : H[q]? = some ce) (hv : ce.vm = .none) (hcl : s.vm.findClass E = some ce.cls)
    (kk : W p l e R s m args below meth c H locs cells slots Q (F0 m x.handlerPc ls [.ref q])) : vx_W p l e R s m args below meth c H locs cells slots Q (F0 m pc ls rest) q := by
  intro T hT X
  have hpl : e.platform.magicAccessors = ({} : Platform).magicAccessors := by rw [X.admits.platform]
  obtain ⟨c3, c4, hc3, hc4, hasg⟩ := Cond.castable_spec hcast
  cases Option.some.inj (hc3.symm.trans hcl)
  obtain ⟨c5, hc5, hcl5⟩ := Cond.classLink_spec hown hlink e.platform hpl
  cases Option.some.inj (hc4.symm.trans hc5)
  obtain ⟨vm', X', st⟩ := X.thenCaughtThrough q (g := F0 m pc ls rest) rfl (Steps.refl _) (by rw [hT]; exact hcell) (by rw [hv]; rfl) (by obtain ⟨k9, h9, -⟩ := Vm.findClass_spec hcl; exact ⟨k9, h9⟩) pre x suf hsplit
    (fun z hz => by
      rcases hpass z hz with h | ⟨hz0, nm, hl1, hn1⟩
      · exact Or.inl h
      · obtain ⟨c6, hc6, hcl6⟩ := Cond.classLink_spec hown hl1 e.platform hpl
        obtain ⟨a8, b8, h1, h2, h3⟩ := hn1
        cases Option.some.inj (h1.symm.trans hcl)
        cases Option.some.inj (h2.symm.trans hc6)
        exact Or.inr ⟨hz0, _, hcl6, h3⟩) hx (Or.inr ⟨h0, c4, hcl5, hasg⟩)
  obtain ⟨t, a1, b1⟩ := kk (T.setVm vm') hT X'
  exact ⟨t, st.trans a1, b1⟩
end Rows
section Ends
variable {p : Program} {l : Launch} {e : Env} {R : Room} {s : State} {m : MethodId} {args : Array Value} {below : List Frame} {meth : Method} {c : Code} {H : Heap} {locs : List Loc} {cells slots : Nat} {Q : State → Prop}
variable {mc ms : Nat} {free : Addr → Prop} {A0 A1 : Nat → Prop} {H0 : Heap} {a : Array Value} {ls : Array Slot} {st0 rest : List Value}
variable {Qc : Array Value → State → Outcome → State → Prop} {XC : String → State → State → Prop}
/-- what a body that may throw owes at its end -/
def vx_MQ (below : List Frame) (Qc : Array Value → State → Outcome → State → Prop) (XC : String → State → State → Prop) (a : Array Value) (s : State) (mc ms : Nat) (free : Addr → Prop) : State → Prop := fun t =>
  ∃ o, t.status = .running ∧ Ended t below o ∧ vx_Q Qc XC mc ms free a s o t
theorem vx_ret {g : JFrame} {mc ms : Nat} (k : W p l e R s m args below meth c H locs cells slots (MQ below Qc args s mc ms free) g) : W p l e R s m args below meth c H locs cells slots (vx_MQ below Qc XC args s mc ms free) g := by
  intro T hT X
  obtain ⟨t, a1, o, b1, b2, b3, b4⟩ := k T hT X
  exact ⟨t, a1, o, b1, b2, Or.inl ⟨b3, b4⟩⟩
/-- not caught here: it goes on to the caller -/
theorem vx_widen {g : JFrame} {q : Addr} {k n : Nat} (h1 : cells ≤ k) (h2 : slots ≤ n) (kk : vx_W p l e R s m args below meth c H locs k n Q g q) : vx_W p l e R s m args below meth c H locs cells slots Q g q := fun T hT X => kk T hT (stand_widen X h1 h2)
theorem vx_out {pc : Nat} {E : String} {ce : Cell} {q : Addr} {mc ms : Nat} (hout : ∀ x ∈ c.exceptionTable.toList, covers x pc = false) (hlocks : meth.locks = false) (hcell : H[q]? = some ce) (hv : ce.vm = .none) (hcl : s.vm.findClass E = some ce.cls)
    (hx : ∀ t : State, t.heap = H → s.vm.Alike t.vm → XC E s t) (hf : ∀ z ∈ locs, free z.base) (hc : cells ≤ mc) (hs : slots ≤ ms) :
    vx_W p l e R s m args below meth c H locs cells slots (vx_MQ below Qc XC args s mc ms free) (F0 m pc ls rest) q := by
  intro T hT X
  obtain ⟨st1, hrun, hend, hW, hsm⟩ := X.leaveThrown q (g := F0 m pc ls rest) rfl rfl rfl hout hlocks
  have hcell9 : (T.setFrames (.throwing q :: below)).heap[q]? = some ce := by
    show T.heap[q]? = some ce
    rw [hT]; exact hcell
  exact ⟨_, st1, .threw q, hrun, hend, Or.inr ⟨q, rfl, E, ce, locs, hx _ hT hW.alike, hcell9, hv, hcl, hW, hsm.mono hc hs, hf⟩⟩
theorem vx_frame {U : State} {k n : Nat} (h : s.sameButNew ({ U with vm := s.vm } : State) locs k n) : s.heap.size ≤ U.heap.size ∧ ∀ q : Nat, q < s.heap.size → (∀ z ∈ locs, z.base ≠ q) → U.heap[q]? = s.heap[q]? := by
  obtain ⟨-, h2, -, -, -, h6⟩ := h
  refine ⟨h2, fun q hq hz => ?_⟩
  obtain ⟨c9, e1, e2, e3, e4⟩ := h6 q _ (Array.getElem?_eq_getElem hq)
  have hs : c9.slots = (s.heap[q]).slots := Array.ext_getElem? fun i => e4 i fun hm => hz _ hm rfl
  have h9 : c9 = s.heap[q] := by
    rw [hs] at e2
    exact e2
  have e5 : U.heap[q]? = some c9 := e1
  rw [e5, h9, Array.getElem?_eq_getElem hq]
/-- the words of a throw but the four that speak of the heap -/
def vx_no (w : Cond) : Bool := decide (w ≠ .isRef (.static Bundle.tN "UNASSIGNED_STACK" Bundle.steD)) && decide (w ≠ .isRef (.static Bundle.tN "SUPPRESSED_SENTINEL" Bundle.listD)) && decide (w ≠ .laysStatic Bundle.tN "UNASSIGNED_STACK" Bundle.steD) && decide (w ≠ .laysStatic Bundle.tN "SUPPRESSED_SENTINEL" Bundle.listD)
def vx_at0 (own : String) (ic : Nat) (X : String) (names : List String) : List Cond := (Bundle.ownAtoms0 own ic X names).filter vx_no
def vx_atS (own : String) (ic : Nat) (X : String) (names : List String) : List Cond := (Bundle.ownAtoms own ic X names).filter vx_no
/-- a word that the tables alone decide, or a good one -/
def vx_ot (w : Cond) : Bool := w.onTables || goodWord w
theorem vx_ot_at {args a' : Array Value} {s U : State} {w : Cond} (hW : s.WarmedH U.vm) (hvm : s.vm = U.vm) (hg : vx_ot w = true) (h : w.before args s = true) : w.before a' U = true := by
  simp only [vx_ot, Bool.or_eq_true] at hg
  rcases hg with hg | hg
  · exact va_tabs hg hvm h
  · exact word_at hW (good_of_word hg) h
/-- a list's words: the good ones out of the method's own list, the others by premises of their own -/
theorem vx_hat {args : Array Value} {s : State} {L B : List Cond} (h1 : ∀ w ∈ L.filter goodWord, w.before args s = true) (h2 : ∀ w ∈ L.filter (fun w => !goodWord w), w ∈ B) (h3 : ∀ w ∈ B, w.before args s = true) : ∀ w ∈ L, w.before args s = true := by
  intro w hw
  by_cases g : goodWord w = true
  · exact h1 w (List.mem_filter.mpr ⟨hw, g⟩)
  · refine h3 w (h2 w (List.mem_filter.mpr ⟨hw, ?_⟩))
    show (!goodWord w) = true
    cases hgw : goodWord w
    · rfl
    · exact absurd hgw g
theorem vx_c {args : Array Value} {s : State} {w : Cond} {B : List Cond} (h : w.before args s = true) (t : ∀ w ∈ B, w.before args s = true) : ∀ w' ∈ w :: B, w'.before args s = true := fun w' h' => (List.mem_cons.mp h').elim (fun e => by rw [e]; exact h) (t w')
theorem vx_n {args : Array Value} {s : State} : ∀ w ∈ ([] : List Cond), w.before args s = true := fun _ h => nomatch h
theorem vx_own {args : Array Value} {s : State} {L : List Cond} (h1 : ∀ w ∈ L.filter vx_no, w.before args s = true)
    (hU : (Cond.isRef (.static Bundle.tN "UNASSIGNED_STACK" Bundle.steD)).before args s = true) (hN : (Cond.isRef (.static Bundle.tN "SUPPRESSED_SENTINEL" Bundle.listD)).before args s = true)
    (lU : (Cond.laysStatic Bundle.tN "UNASSIGNED_STACK" Bundle.steD).before args s = true) (lN : (Cond.laysStatic Bundle.tN "SUPPRESSED_SENTINEL" Bundle.listD).before args s = true) : ∀ w ∈ L, w.before args s = true := by
  intro w hw
  by_cases e1 : w = .isRef (.static Bundle.tN "UNASSIGNED_STACK" Bundle.steD)
  · rw [e1]; exact hU
  · by_cases e2 : w = .isRef (.static Bundle.tN "SUPPRESSED_SENTINEL" Bundle.listD)
    · rw [e2]; exact hN
    · by_cases e3 : w = .laysStatic Bundle.tN "UNASSIGNED_STACK" Bundle.steD
      · rw [e3]; exact lU
      · by_cases e4 : w = .laysStatic Bundle.tN "SUPPRESSED_SENTINEL" Bundle.listD
        · rw [e4]; exact lN
        · exact h1 w (List.mem_filter.mpr ⟨hw, by unfold vx_no; rw [decide_eq_true e1, decide_eq_true e2, decide_eq_true e3, decide_eq_true e4]; rfl⟩)
/-- where a static field lies, its class's statics cell in H -/
def vx_L (C n d : String) (A : Nat → Prop) (U : State) (H : Heap) : Prop := ∃ (c : ClassId) (k : Class) (i : Nat) (f : Field) (a : Nat) (cell : Cell), U.vm.findClass C = some c ∧ U.fieldFound? C n d = some (c, k, i, f) ∧ f.isStatic = true ∧ k.statics = some a ∧ H[a]? = some cell ∧ cell.vm.isStatics = true ∧ cell.cls = c ∧ f.slot < cell.slots.size ∧ k.staticTypes[f.slot]? = some f.type ∧ ¬ A a
theorem vx_L.moved {C n d : String} {A : Nat → Prop} {u U : State} {H : Heap} (hvm : u.vm.Alike U.vm) (h : vx_L C n d A u H) : vx_L C n d A U H := by
  obtain ⟨c, k, i, f, a, cell, h1, h2, h3, h4, h5, h6, h7, h8, h9, h10⟩ := h
  obtain ⟨k', hi', he⟩ := State.fieldFound?_setVm hvm h2
  exact ⟨c, k', i, f, a, cell, by rw [hvm.findClass]; exact h1, hi', h3, by rw [he]; exact h4, h5, h6, h7, h8, by rw [he]; exact h9, h10⟩
theorem vx_L.kept {C n d : String} {A : Nat → Prop} {U : State} {H H1 : Heap} (h : vx_L C n d A U H) (hq : ∀ a : Nat, a < H.size → ¬ A a → H1[a]? = H[a]?) : vx_L C n d A U H1 := by
  obtain ⟨c, k, i, f, a, cell, h1, h2, h3, h4, h5, h6, h7, h8, h9, h10⟩ := h
  exact ⟨c, k, i, f, a, cell, h1, h2, h3, h4, by rw [hq a (Array.getElem?_eq_some_iff.mp h5).1 h10]; exact h5, h6, h7, h8, h9, h10⟩
theorem vx_L.narrow {C n d : String} {A B : Nat → Prop} {U : State} {H : Heap} (h : vx_L C n d A U H) (hAB : ∀ q, B q → A q) : vx_L C n d B U H := by
  obtain ⟨c, k, i, f, a, cell, h1, h2, h3, h4, h5, h6, h7, h8, h9, h10⟩ := h
  exact ⟨c, k, i, f, a, cell, h1, h2, h3, h4, h5, h6, h7, h8, h9, fun z => h10 (hAB _ z)⟩
theorem vx_L.word {C n d : String} {A : Nat → Prop} {s : State} {args : Array Value} (h : vx_L C n d A s s.heap) : (Cond.laysStatic C n d).before args s = true := by
  obtain ⟨c, k, i, f, a, cell, h1, h2, h3, h4, h5, h6, h7, h8, h9, -⟩ := h
  show (Cond.laysStatic C n d).holds args s none s [] = true
  exact Cond.laysStatic_of h1 h2 h3 h4 h5 h6 h7 h8 h9
/-- .. and what it holds: null or some reference -/
def vx_Zq (C n d : String) (A : Nat → Prop) (U : State) (H : Heap) : Prop := va_Zq C n d A U H ∧ vx_L C n d A U H
theorem vx_Zq.moved {C n d : String} {A : Nat → Prop} {u U : State} {H : Heap} (hvm : u.vm.Alike U.vm) (h : vx_Zq C n d A u H) : vx_Zq C n d A U H := ⟨va_Zq.moved hvm h.1, vx_L.moved hvm h.2⟩
theorem vx_Zq.kept {C n d : String} {A : Nat → Prop} {U : State} {H H1 : Heap} (h : vx_Zq C n d A U H) (hq : ∀ a : Nat, a < H.size → ¬ A a → H1[a]? = H[a]?) : vx_Zq C n d A U H1 := ⟨va_Zq.kept h.1 hq, vx_L.kept h.2 hq⟩
theorem vx_Zq.narrow {C n d : String} {A B : Nat → Prop} {U : State} {H : Heap} (h : vx_Zq C n d A U H) (hAB : ∀ q, B q → A q) : vx_Zq C n d B U H := ⟨va_Zq.narrow h.1 hAB, vx_L.narrow h.2 hAB⟩
theorem vx_Zqof {args : Array Value} {s : State} {C n d : String} {A : Nat → Prop} (hl : (Cond.laysStatic C n d).before args s = true) (hini : (Cond.initialized C).before args s = true) (h : (Cond.isRef (.static C n d)).before args s = true) (hA : ∀ a : Nat, a < s.heap.size → ¬ A a) : vx_Zq C n d A s s.heap := by
  refine ⟨va_Zqof hl hini h hA, ?_⟩
  obtain ⟨c, k, i, f, a, cell, h1, h2, h3, h4, h5, h6, h7, h8, h9⟩ := Cond.laysStatic_spec hl
  exact ⟨c, k, i, f, a, cell, h1, h2, h3, h4, h5, h6, h7, h8, h9, hA a (Array.getElem?_eq_some_iff.mp h5).1⟩
theorem vx_isRef {C n d : String} {v : Value} {A : Nat → Prop} {s : State} {args : Array Value} (h : va_Z C n d v A s s.heap) (hv : v.isRef = true) : (Cond.isRef (.static C n d)).before args s = true := by
  obtain ⟨cf, kf, fi, f, a, cell, h1, h2, h3, h4, h5, h6, h7, -⟩ := h
  have he : (Term.static C n d).eval args s none [] s = some v := by
    simp [Term.eval, State.fieldNamed?, h1, h2, h4, h5, h6, h7]
  simp only [Cond.before, Cond.holds, Cond.value, he]
  cases v <;> simp_all [Value.isRef]
theorem vx_isRefq {C n d : String} {A : Nat → Prop} {s : State} {args : Array Value} (h : va_Zq C n d A s s.heap) : (Cond.isRef (.static C n d)).before args s = true := by
  rcases h with h | ⟨t, h⟩
  · exact vx_isRef h rfl
  · exact vx_isRef h rfl
/-- the same frame, seen from here: as if the method were called anew in this heap -/
theorem vx_rebase {T : State} (X : Stand p l e R s m args below meth c T locs cells slots) {R' : Room} (hf : R'.frames ≤ R.frames) (hl : R'.locals ≤ R.locals) (hc : cells + R'.cells ≤ R.cells) (hs : slots + R'.slots ≤ R.slots) :
    Stand p l e R' ((T.setVm s.vm).setFrames (.invoking m args :: below)) m args below meth c T [] 0 0 := by
  have htop : (T.setVm s.vm).topJava?.isSome := X.here.top
  have hF : ((T.setVm s.vm).setFrames (.invoking m args :: below)).frames = .invoking m args :: below := State.frames_setFrames _ (State.cur_lt_of_top htop)
  obtain ⟨g₀, hg0⟩ := Option.isSome_iff_exists.mp htop
  obtain ⟨r, hr⟩ := State.topJava?_eq_some.mp hg0
  have hl9 : e.platform.stackLimits (T.setVm s.vm).me = e.platform.stackLimits s.me := X.limits
  have hb9 : (T.setVm s.vm).me.stackBytes = s.me.stackBytes := X.bytes
  refine ⟨X.admits, X.cas, X.clock, hF, ?_, X.hears, X.method, X.code, X.here, X.tail, X.warmed, ?_, ?_, ?_⟩
  · have h := X.room
    have hU : ((T.setVm s.vm).setFrames (.invoking m args :: below)).localsInUse = s.localsInUse := by
      rw [State.localsInUse_invoking hF (meth := meth) (c := c) X.method X.code, State.localsInUse_invoking X.frames X.method X.code]
    simp only [State.hasRoom, Bool.and_eq_true, decide_eq_true_eq] at h ⊢
    obtain ⟨⟨⟨⟨h1, h2, h3, h4, h5, h6⟩, h7⟩, h8⟩, h9⟩ := h
    rw [X.frames, List.length_cons] at h2 h3
    have q1 := X.heapSize
    have q2 := X.used
    simp only [hF, hU, List.length_cons, State.stackLimits_setFrames, State.stackBytes_setFrames, hl9, hb9]
    refine ⟨⟨⟨⟨by omega, by omega, by omega, by omega, by omega, h6⟩, ?_⟩, ?_⟩, X.book⟩
    · show T.heap.size + R'.cells ≤ e.platform.maxCells
      omega
    · show T.slotsUsed + R'.slots ≤ e.platform.maxSlots
      omega
  · rw [State.stackLimits_setFrames]; rfl
  · rw [State.stackBytes_setFrames]; rfl
  · refine ⟨?_, Nat.le_refl _, Nat.le_refl _, ?_, ?_, fun a c9 h9 => ⟨c9, h9, rfl, rfl, fun _ _ => rfl⟩⟩
    · obtain ⟨t, ht, -⟩ := State.frames_cons hr
      show T.setVm s.vm = { ((T.setVm s.vm).setFrames (.invoking m args :: below)).setFrames (T.setVm s.vm).frames with heap := T.heap, slotsUsed := T.slotsUsed }
      rw [State.setFrames_setFrames, State.setFrames_self ht]
      rfl
    · show T.slotsUsed = T.slotsUsed + ((T.heap.toList.drop T.heap.size).map (·.slots.size)).sum
      rw [List.drop_eq_nil_of_le (Nat.le_of_eq Array.length_toList)]
      rfl
    · show ((T.heap.toList.drop T.heap.size).map (·.slots.size)).sum ≤ 0
      rw [List.drop_eq_nil_of_le (Nat.le_of_eq Array.length_toList)]
      exact Nat.le_refl _
/-- 'throw new E()': new; dup; invokespecial; athrow -/
theorem vx_throw0 {cc : ByteArray} {pc : Nat} (hexec : p.tables.exec = Jvm.exec) (hb : c.code = cc) (hl : l.stackTraces = false) {own cls : String} {names : List String} {ik ic mc ms : Nat} {A : Nat → Prop}
    (hown : s.vm.findClass own = some m.cls) (hcls : Bundle.fit cls = true) (hnames : ∀ n ∈ names, Bundle.fit n = true)
    (hk : (Cond.classLink own ik cls).before args s = true) (hini : (Cond.initialized cls).before args s = true) (hat : ∀ w ∈ vx_at0 own ic cls names, w.before args s = true)
    (hgood : ∀ w ∈ Cond.classLink own ik cls :: Cond.initialized cls :: vx_at0 own ic cls names, vx_ot w = true)
    (hU : vx_Zq Bundle.tN "UNASSIGNED_STACK" Bundle.steD A s s.heap) (hN : vx_Zq Bundle.tN "SUPPRESSED_SENTINEL" Bundle.listD A s s.heap) (hS : va_S A s.heap H locs) (hsize : ls.size = c.maxLocals)
    (d0 : decode cc pc = .ok (.new ik, 3)) (d3 : decode cc (pc + 3) = .ok (.dup, 1)) (d4 : decode cc (pc + 4) = .ok (.invokespecial ic, 3)) (d7 : decode cc (pc + 7) = .ok (.athrow, 1))
    (hout : ∀ x ∈ c.exceptionTable.toList, covers x (pc + 7) = false)
    (hRframes : names.length + 3 < R.frames) (hRlocals : (rest.map fun v => v.category).sum + (13 * (names.length + 1) + 42) ≤ R.locals) (hRcells : cells + 1 ≤ R.cells) (hRslots : slots + 6 ≤ R.slots) (hlocks : meth.locks = false)
    (hx : ∀ t : State, s.vm.Alike t.vm → H.size ≤ t.heap.size → (∀ q : Nat, q < H.size → t.heap[q]? = H[q]?) → XC cls s t)
    (hf : ∀ z ∈ locs, free z.base) (hc : cells + 1 ≤ mc) (hs : slots + 6 ≤ ms) :
    W p l e R s m args below meth c H locs cells slots (vx_MQ below Qc XC args s mc ms free) (F0 m pc ls rest) := by
  intro T hT X
  have htr : e.platform.stackTraces = false := (show e.platform.stackTraces = l.stackTraces by rw [X.admits.platform]).trans hl
  have Y := vx_rebase X (R' := { frames := R.frames, locals := R.locals, cells := 1, slots := 6 }) (Nat.le_refl _) (Nat.le_refl _) hRcells hRslots
  obtain ⟨s', hA⟩ : ∃ z, z = (T.setVm s.vm).setFrames (.invoking m args :: below) := ⟨_, rfl⟩
  rw [← hA] at Y
  have hvm : s'.vm = s.vm := by rw [hA]; rfl
  have hhp : s'.heap = H := by rw [hA]; exact hT
  have hW0 : s.WarmedH s'.vm := by rw [hvm]; exact State.WarmedH.refl s
  have hat' : ∀ w ∈ vx_at0 own ic cls names, w.before args s' = true := fun w hw => vx_ot_at hW0 hvm.symm (hgood w (List.mem_cons_of_mem _ (List.mem_cons_of_mem _ hw))) (hat w hw)
  have hk' : (Cond.classLink own ik cls).before args s' = true := vx_ot_at hW0 hvm.symm (hgood _ List.mem_cons_self) hk
  have hini' : (Cond.initialized cls).before args s' = true := vx_ot_at hW0 hvm.symm (hgood _ (List.mem_cons_of_mem _ List.mem_cons_self)) hini
  have hU' : vx_Zq Bundle.tN "UNASSIGNED_STACK" Bundle.steD A s' s'.heap := by rw [hhp]; exact vx_Zq.moved hW0.alike (hU.kept hS.2.1)
  have hN' : vx_Zq Bundle.tN "SUPPRESSED_SENTINEL" Bundle.listD A s' s'.heap := by rw [hhp]; exact vx_Zq.moved hW0.alike (hN.kept hS.2.1)
  have h : ∀ w ∈ Bundle.ownAtoms0 own ic cls names, w.before args s' = true := vx_own hat' (vx_isRefq hU'.1) (vx_isRefq hN'.1) hU'.2.word hN'.2.word
  have hown' : s'.vm.findClass own = some m.cls := by rw [hvm]; exact hown
  have hins : (Cond.instantiable cls 6).before args s' = true := h _ (by simp [Bundle.ownAtoms0])
  obtain ⟨vm₁, cX, kX, hfX, hkX, -, -, X₁, st1⟩ := Y.newCold hexec (own := own) (C := cls) (index := ik) (n := 6) hown' hk' hins hini'
    (g := F0 m pc ls rest) rfl (by rw [hb]; exact d0) (Nat.le_refl _) (Nat.le_refl _)
  generalize hT1 : (T.setVm vm₁).pushCell { cls := cX, slots := kX.instanceTypes.map defaultValue, vm := .none } = T1 at X₁ st1
  have hcat : (Value.ref T.heap.size).category = 1 := rfl
  have hcellA : T1.heap[T.heap.size]? = some (freshCell cX kX) := by rw [← hT1]; exact State.heap_pushCell_size _ _
  have d3' : decode c.code (pc + 3) = .ok (.dup, 1) := by rw [hb]; exact d3
  obtain ⟨U, hsteps, hrun, hend, hW, hsame, ce, hce, hO⟩ := X₁.ctorThrow0 hexec htr (own := own) (cls := cls) (names := names) (ic := ic) hown' hcls hnames h (fun x hx => nomatch hx) hfX hkX hcellA (by rw [hhp, hT]; exact Nat.le_refl _)
    (g := { method := m, pc := pc + 4, locals := ls, stack := .ref T.heap.size :: .ref T.heap.size :: rest, locked := none }) rfl hsize rfl rfl (rest := rest) rfl
    (by rw [hb]; exact d4) (by rw [hb]; exact d7) hout hRframes (by simp only [List.map_cons, List.sum_cons, hcat]; omega) hlocks
  obtain ⟨f1, f2⟩ := vx_frame hsame
  rw [hhp] at f1 f2
  have hWs : s.WarmedH U.vm := State.WarmedH.trans hW0 hW
  have hcl : s.vm.findClass cls = some ce.cls := by
    have h9 := hO.cls
    rw [hvm] at h9
    exact h9
  have hall : s.sameButNew ({ U with vm := s.vm } : State) locs mc ms := by
    subst hA
    obtain ⟨e1, e2⟩ := hsame
    rw [State.setFrames_setFrames] at e1
    have h2 : (T.setVm s.vm).sameButNew ({ U with vm := s.vm } : State) [] (0 + 1) (0 + 6) := ⟨e1, e2⟩
    have h3 := X.same.trans h2
    rw [List.append_nil] at h3
    exact h3.mono hc hs
  refine ⟨U, ?_, .threw T.heap.size, hrun, hend, Or.inr ⟨T.heap.size, rfl, cls, ce, locs, hx U hWs.alike f1 (fun q hq => f2 q hq (fun z hz => nomatch hz)), hce, hO.vm, hcl, hWs, hall, hf⟩⟩
  refine st1 _ ?_
  show Steps p.tables e below (T1.setTop { method := m, pc := pc + 3, locals := ls, stack := .ref T.heap.size :: rest, locked := none }) _
  jvm_step X₁.here [X₁.here.top, hexec, d3', Value.category]
  exact hsteps
/-- 'throw new E("text")': new; dup; ldc; invokespecial; athrow -/
theorem vx_throwS {cc : ByteArray} {pc : Nat} (hexec : p.tables.exec = Jvm.exec) (hb : c.code = cc) (hl : l.stackTraces = false) {own cls text : String} {names : List String} {ik is ic mc ms sa : Nat} {A : Nat → Prop}
    (hown : s.vm.findClass own = some m.cls) (hcls : Bundle.fit cls = true) (hnames : ∀ n ∈ names, Bundle.fit n = true)
    (hk : (Cond.classLink own ik cls).before args s = true) (hini : (Cond.initialized cls).before args s = true) (hstr : vk_R own is text sa s) (hat : ∀ w ∈ vx_atS own ic cls names, w.before args s = true)
    (hgood : ∀ w ∈ Cond.classLink own ik cls :: Cond.initialized cls :: vx_atS own ic cls names, vx_ot w = true)
    (hU : vx_Zq Bundle.tN "UNASSIGNED_STACK" Bundle.steD A s s.heap) (hN : vx_Zq Bundle.tN "SUPPRESSED_SENTINEL" Bundle.listD A s s.heap) (hS : va_S A s.heap H locs) (hsize : ls.size = c.maxLocals)
    (d0 : decode cc pc = .ok (.new ik, 3)) (d3 : decode cc (pc + 3) = .ok (.dup, 1)) (d4 : decode cc (pc + 4) = .ok (.ldc is, 2)) (d6 : decode cc (pc + 6) = .ok (.invokespecial ic, 3)) (d9 : decode cc (pc + 9) = .ok (.athrow, 1))
    (hout : ∀ x ∈ c.exceptionTable.toList, covers x (pc + 9) = false)
    (hRframes : names.length + 3 < R.frames) (hRlocals : (rest.map fun v => v.category).sum + (13 * (names.length + 1) + 43) ≤ R.locals) (hRcells : cells + 1 ≤ R.cells) (hRslots : slots + 6 ≤ R.slots) (hlocks : meth.locks = false)
    (hx : ∀ t : State, s.vm.Alike t.vm → H.size ≤ t.heap.size → (∀ q : Nat, q < H.size → t.heap[q]? = H[q]?) → XC cls s t)
    (hf : ∀ z ∈ locs, free z.base) (hc : cells + 1 ≤ mc) (hs : slots + 6 ≤ ms) :
    W p l e R s m args below meth c H locs cells slots (vx_MQ below Qc XC args s mc ms free) (F0 m pc ls rest) := by
  intro T hT X
  have htr : e.platform.stackTraces = false := (show e.platform.stackTraces = l.stackTraces by rw [X.admits.platform]).trans hl
  have Y := vx_rebase X (R' := { frames := R.frames, locals := R.locals, cells := 1, slots := 6 }) (Nat.le_refl _) (Nat.le_refl _) hRcells hRslots
  obtain ⟨s', hA⟩ : ∃ z, z = (T.setVm s.vm).setFrames (.invoking m args :: below) := ⟨_, rfl⟩
  rw [← hA] at Y
  have hvm : s'.vm = s.vm := by rw [hA]; rfl
  have hhp : s'.heap = H := by rw [hA]; exact hT
  have hW0 : s.WarmedH s'.vm := by rw [hvm]; exact State.WarmedH.refl s
  have hat' : ∀ w ∈ vx_atS own ic cls names, w.before args s' = true := fun w hw => vx_ot_at hW0 hvm.symm (hgood w (List.mem_cons_of_mem _ (List.mem_cons_of_mem _ hw))) (hat w hw)
  have hk' : (Cond.classLink own ik cls).before args s' = true := vx_ot_at hW0 hvm.symm (hgood _ List.mem_cons_self) hk
  have hini' : (Cond.initialized cls).before args s' = true := vx_ot_at hW0 hvm.symm (hgood _ (List.mem_cons_of_mem _ List.mem_cons_self)) hini
  have hU' : vx_Zq Bundle.tN "UNASSIGNED_STACK" Bundle.steD A s' s'.heap := by rw [hhp]; exact vx_Zq.moved hW0.alike (hU.kept hS.2.1)
  have hN' : vx_Zq Bundle.tN "SUPPRESSED_SENTINEL" Bundle.listD A s' s'.heap := by rw [hhp]; exact vx_Zq.moved hW0.alike (hN.kept hS.2.1)
  have h : ∀ w ∈ Bundle.ownAtoms own ic cls names, w.before args s' = true := vx_own hat' (vx_isRefq hU'.1) (vx_isRefq hN'.1) hU'.2.word hN'.2.word
  have hown' : s'.vm.findClass own = some m.cls := by rw [hvm]; exact hown
  have hins : (Cond.instantiable cls 6).before args s' = true := h _ (by simp [Bundle.ownAtoms])
  obtain ⟨vm₁, cX, kX, hfX, hkX, -, -, X₁, st1⟩ := Y.newCold hexec (own := own) (C := cls) (index := ik) (n := 6) hown' hk' hins hini'
    (g := F0 m pc ls rest) rfl (by rw [hb]; exact d0) (Nat.le_refl _) (Nat.le_refl _)
  generalize hT1 : (T.setVm vm₁).pushCell { cls := cX, slots := kX.instanceTypes.map defaultValue, vm := .none } = T1 at X₁ st1
  have hcat : (Value.ref T.heap.size).category = 1 := rfl
  have hcellA : T1.heap[T.heap.size]? = some (freshCell cX kX) := by rw [← hT1]; exact State.heap_pushCell_size _ _
  have d3' : decode c.code (pc + 3) = .ok (.dup, 1) := by rw [hb]; exact d3
  have d4' : decode c.code (pc + 4) = .ok (.ldc is, 2) := by rw [hb]; exact d4
  have hstr' : vk_R own is text sa s' := vk_R.warm hW0 hstr
  obtain ⟨U, hsteps, hrun, hend, hW, hsame, ce, hce, hO⟩ := X₁.ctorThrowS hexec htr (own := own) (cls := cls) (names := names) (ic := ic) hown' hcls hnames h (fun x hx => nomatch hx) hfX hkX hcellA (by rw [hhp, hT]; exact Nat.le_refl _) (msg := .ref sa) rfl
    (g := { method := m, pc := pc + 6, locals := ls, stack := .ref sa :: .ref T.heap.size :: .ref T.heap.size :: rest, locked := none }) rfl hsize rfl rfl (rest := rest) rfl
    (by rw [hb]; exact d6) (by rw [hb]; exact d9) hout hRframes (by simp only [List.map_cons, List.sum_cons, hcat]; omega) hlocks
  obtain ⟨f1, f2⟩ := vx_frame hsame
  rw [hhp] at f1 f2
  have hWs : s.WarmedH U.vm := State.WarmedH.trans hW0 hW
  have hcl : s.vm.findClass cls = some ce.cls := by
    have h9 := hO.cls
    rw [hvm] at h9
    exact h9
  have hall : s.sameButNew ({ U with vm := s.vm } : State) locs mc ms := by
    subst hA
    obtain ⟨e1, e2⟩ := hsame
    rw [State.setFrames_setFrames] at e1
    have h2 : (T.setVm s.vm).sameButNew ({ U with vm := s.vm } : State) [] (0 + 1) (0 + 6) := ⟨e1, e2⟩
    have h3 := X.same.trans h2
    rw [List.append_nil] at h3
    exact h3.mono hc hs
  refine ⟨U, ?_, .threw T.heap.size, hrun, hend, Or.inr ⟨T.heap.size, rfl, cls, ce, locs, hx U hWs.alike f1 (fun q hq => f2 q hq (fun z hz => nomatch hz)), hce, hO.vm, hcl, hWs, hall, hf⟩⟩
  refine st1 _ ?_
  show Steps p.tables e below (T1.setTop { method := m, pc := pc + 3, locals := ls, stack := .ref T.heap.size :: rest, locked := none }) _
  jvm_step X₁.here [X₁.here.top, hexec, d3', Value.category]
  exact X₁.ldcString hexec (own := own) (text := text) (index := is) (a := sa) hown' hstr'.1 hstr'.2
    (g := { method := m, pc := pc + 4, locals := ls, stack := .ref T.heap.size :: .ref T.heap.size :: rest, locked := none }) rfl d4' _ hsteps
/-- 'throw new E("text")', the text by a wide index -/
theorem vx_throwSW {cc : ByteArray} {pc : Nat} (hexec : p.tables.exec = Jvm.exec) (hb : c.code = cc) (hl : l.stackTraces = false) {own cls text : String} {names : List String} {ik is ic mc ms sa : Nat} {A : Nat → Prop}
    (hown : s.vm.findClass own = some m.cls) (hcls : Bundle.fit cls = true) (hnames : ∀ n ∈ names, Bundle.fit n = true)
    (hk : (Cond.classLink own ik cls).before args s = true) (hini : (Cond.initialized cls).before args s = true) (hstr : vk_R own is text sa s) (hat : ∀ w ∈ vx_atS own ic cls names, w.before args s = true)
    (hgood : ∀ w ∈ Cond.classLink own ik cls :: Cond.initialized cls :: vx_atS own ic cls names, vx_ot w = true)
    (hU : vx_Zq Bundle.tN "UNASSIGNED_STACK" Bundle.steD A s s.heap) (hN : vx_Zq Bundle.tN "SUPPRESSED_SENTINEL" Bundle.listD A s s.heap) (hS : va_S A s.heap H locs) (hsize : ls.size = c.maxLocals)
    (d0 : decode cc pc = .ok (.new ik, 3)) (d3 : decode cc (pc + 3) = .ok (.dup, 1)) (d4 : decode cc (pc + 4) = .ok (.ldc_w is, 3)) (d7 : decode cc (pc + 7) = .ok (.invokespecial ic, 3)) (d10 : decode cc (pc + 10) = .ok (.athrow, 1))
    (hout : ∀ x ∈ c.exceptionTable.toList, covers x (pc + 10) = false)
    (hRframes : names.length + 3 < R.frames) (hRlocals : (rest.map fun v => v.category).sum + (13 * (names.length + 1) + 43) ≤ R.locals) (hRcells : cells + 1 ≤ R.cells) (hRslots : slots + 6 ≤ R.slots) (hlocks : meth.locks = false)
    (hx : ∀ t : State, s.vm.Alike t.vm → H.size ≤ t.heap.size → (∀ q : Nat, q < H.size → t.heap[q]? = H[q]?) → XC cls s t)
    (hf : ∀ z ∈ locs, free z.base) (hc : cells + 1 ≤ mc) (hs : slots + 6 ≤ ms) :
    W p l e R s m args below meth c H locs cells slots (vx_MQ below Qc XC args s mc ms free) (F0 m pc ls rest) := by
  intro T hT X
  have htr : e.platform.stackTraces = false := (show e.platform.stackTraces = l.stackTraces by rw [X.admits.platform]).trans hl
  have Y := vx_rebase X (R' := { frames := R.frames, locals := R.locals, cells := 1, slots := 6 }) (Nat.le_refl _) (Nat.le_refl _) hRcells hRslots
  obtain ⟨s', hA⟩ : ∃ z, z = (T.setVm s.vm).setFrames (.invoking m args :: below) := ⟨_, rfl⟩
  rw [← hA] at Y
  have hvm : s'.vm = s.vm := by rw [hA]; rfl
  have hhp : s'.heap = H := by rw [hA]; exact hT
  have hW0 : s.WarmedH s'.vm := by rw [hvm]; exact State.WarmedH.refl s
  have hat' : ∀ w ∈ vx_atS own ic cls names, w.before args s' = true := fun w hw => vx_ot_at hW0 hvm.symm (hgood w (List.mem_cons_of_mem _ (List.mem_cons_of_mem _ hw))) (hat w hw)
  have hk' : (Cond.classLink own ik cls).before args s' = true := vx_ot_at hW0 hvm.symm (hgood _ List.mem_cons_self) hk
  have hini' : (Cond.initialized cls).before args s' = true := vx_ot_at hW0 hvm.symm (hgood _ (List.mem_cons_of_mem _ List.mem_cons_self)) hini
  have hU' : vx_Zq Bundle.tN "UNASSIGNED_STACK" Bundle.steD A s' s'.heap := by rw [hhp]; exact vx_Zq.moved hW0.alike (hU.kept hS.2.1)
  have hN' : vx_Zq Bundle.tN "SUPPRESSED_SENTINEL" Bundle.listD A s' s'.heap := by rw [hhp]; exact vx_Zq.moved hW0.alike (hN.kept hS.2.1)
  have h : ∀ w ∈ Bundle.ownAtoms own ic cls names, w.before args s' = true := vx_own hat' (vx_isRefq hU'.1) (vx_isRefq hN'.1) hU'.2.word hN'.2.word
  have hown' : s'.vm.findClass own = some m.cls := by rw [hvm]; exact hown
  have hins : (Cond.instantiable cls 6).before args s' = true := h _ (by simp [Bundle.ownAtoms])
  obtain ⟨vm₁, cX, kX, hfX, hkX, -, -, X₁, st1⟩ := Y.newCold hexec (own := own) (C := cls) (index := ik) (n := 6) hown' hk' hins hini'
    (g := F0 m pc ls rest) rfl (by rw [hb]; exact d0) (Nat.le_refl _) (Nat.le_refl _)
  generalize hT1 : (T.setVm vm₁).pushCell { cls := cX, slots := kX.instanceTypes.map defaultValue, vm := .none } = T1 at X₁ st1
  have hcat : (Value.ref T.heap.size).category = 1 := rfl
  have hcellA : T1.heap[T.heap.size]? = some (freshCell cX kX) := by rw [← hT1]; exact State.heap_pushCell_size _ _
  have d3' : decode c.code (pc + 3) = .ok (.dup, 1) := by rw [hb]; exact d3
  have d4' : decode c.code (pc + 4) = .ok (.ldc_w is, 3) := by rw [hb]; exact d4
  have hstr' : vk_R own is text sa s' := vk_R.warm hW0 hstr
  obtain ⟨U, hsteps, hrun, hend, hW, hsame, ce, hce, hO⟩ := X₁.ctorThrowS hexec htr (own := own) (cls := cls) (names := names) (ic := ic) hown' hcls hnames h (fun x hx => nomatch hx) hfX hkX hcellA (by rw [hhp, hT]; exact Nat.le_refl _) (msg := .ref sa) rfl
    (g := { method := m, pc := pc + 7, locals := ls, stack := .ref sa :: .ref T.heap.size :: .ref T.heap.size :: rest, locked := none }) rfl hsize rfl rfl (rest := rest) rfl
    (by rw [hb]; exact d7) (by rw [hb]; exact d10) hout hRframes (by simp only [List.map_cons, List.sum_cons, hcat]; omega) hlocks
  obtain ⟨f1, f2⟩ := vx_frame hsame
  rw [hhp] at f1 f2
  have hWs : s.WarmedH U.vm := State.WarmedH.trans hW0 hW
  have hcl : s.vm.findClass cls = some ce.cls := by
    have h9 := hO.cls
    rw [hvm] at h9
    exact h9
  have hall : s.sameButNew ({ U with vm := s.vm } : State) locs mc ms := by
    subst hA
    obtain ⟨e1, e2⟩ := hsame
    rw [State.setFrames_setFrames] at e1
    have h2 : (T.setVm s.vm).sameButNew ({ U with vm := s.vm } : State) [] (0 + 1) (0 + 6) := ⟨e1, e2⟩
    have h3 := X.same.trans h2
    rw [List.append_nil] at h3
    exact h3.mono hc hs
  refine ⟨U, ?_, .threw T.heap.size, hrun, hend, Or.inr ⟨T.heap.size, rfl, cls, ce, locs, hx U hWs.alike f1 (fun q hq => f2 q hq (fun z hz => nomatch hz)), hce, hO.vm, hcl, hWs, hall, hf⟩⟩
  refine st1 _ ?_
  show Steps p.tables e below (T1.setTop { method := m, pc := pc + 3, locals := ls, stack := .ref T.heap.size :: rest, locked := none }) _
  jvm_step X₁.here [X₁.here.top, hexec, d3', Value.category]
  exact X₁.ldcStringW hexec (own := own) (text := text) (index := is) (a := sa) hown' hstr'.1 hstr'.2
    (g := { method := m, pc := pc + 4, locals := ls, stack := .ref T.heap.size :: .ref T.heap.size :: rest, locked := none }) rfl d4' _ hsteps
end Ends
section Bodies
variable {l : Launch}
theorem vx_ofW {y : MethodName} {ws ws' : List Cond} {rm : Room} {Pc : Array Value → State → Prop} {Qc : Array Value → State → Outcome → State → Prop} {XC : String → State → State → Prop} {mc ms : Nat} {free : Addr → Prop} {cc : ByteArray} {maxL : Nat} {ret : Option FieldType}
    (hy : plainName y.cls = true) (hw : ws = Cond.code y cc maxL ret :: ws')
    (body : ∀ p e s m args below meth c s₁, BodyLoose p l y (headSpec ws rm) cc maxL ret e s m args below meth c s₁ → c.maxLocals = maxL → (∀ x ∈ c.exceptionTable.toList, False) → Pc args s →
      W p l e (headSpec ws rm).room s m args below meth c s.heap [] 0 0 (vx_MQ below Qc XC args s mc ms free) (entryFrame m args maxL)) : vx_Met l y ws rm Pc Qc XC mc ms free := by
  refine MetFree.of_bodyS (code := cc) (maxLocals := maxL) (ret := ret) hy ?_ ?_
  · intro args s m h hn
    obtain ⟨meth, c, h1, h2, h3, h4, h5, h6, -, -⟩ := Cond.code_spec hn (atoms_spec (ws := ws) h _ (by rw [hw]; exact List.mem_cons_self))
    exact ⟨meth, c, h1, h2, h3, h4, h5, h6⟩
  · intro p e s m args below meth c s₁ B hml hP _
    have hh0 : s₁.heap = s.heap := by rw [B.state]; rfl
    have ht : ∀ x ∈ c.exceptionTable.toList, False := by
      obtain ⟨meth9, c9, h1, h2, -, -, -, -, h7, -⟩ := Cond.code_spec B.named (atoms_spec (ws := ws) B.pre _ (by rw [hw]; exact List.mem_cons_self))
      cases Option.some.inj (h1.symm.trans B.method)
      cases Option.some.inj (h2.symm.trans (Stand.of_body B).code)
      intro x hx
      rw [Array.isEmpty_iff.mp h7] at hx
      cases hx
    obtain ⟨t, a1, o, b1, b2, b3⟩ := body p e s m args below meth c s₁ B hml ht hP s₁ hh0 (Stand.of_body B)
    exact ⟨t, o, a1, b1, b2, b3⟩
/-- the table of a body with handlers -/
theorem vx_table {p : Program} {x y : MethodName} {S : Spec} {cc bytes : ByteArray} {maxL maxL' : Nat} {ret ret' : Option FieldType} {e : Env} {s s₁ : State} {m : MethodId} {args : Array Value} {below : List Frame} {meth : Method} {c : Code} {hh : List (Nat × Nat × Nat × Nat)}
    (B : BodyLoose p l y S cc maxL ret e s m args below meth c s₁) (h : (Cond.codeWith y bytes maxL' ret' hh).before args s = true) : c.exceptionTable.toList = tableOf hh := by
  obtain ⟨m9, meth9, c9, hn9, h1, h2, -, -, h6, -⟩ := Cond.codeWith_spec h
  cases Option.some.inj (hn9.symm.trans B.named)
  cases Option.some.inj (h1.symm.trans B.method)
  cases Option.some.inj (h2.symm.trans (Stand.of_body B).code)
  rw [← h6, table_eq]
end Bodies
end VXA
/-! ===== END ===== -/
/-! ===== BEGIN a static call of a method with an exception table ===== -/
section VXS
variable {p : Program} {l : Launch} {e : Env} {R : Room} {s : State} {m : MethodId} {args : Array Value} {below : List Frame} {meth : Method} {c : Code} {T : State} {H : Heap} {locs : List Loc} {cells slots : Nat}
abbrev vx_CSW (R : Room) (s : State) (args : Array Value) (own : String) (index : Nat) (y : MethodName) (bytes : ByteArray) (maxL : Nat) (ret : Option FieldType) (hh : List (Nat × Nat × Nat × Nat)) (ws : List Cond) (rm : Room) (mc ms n : Nat) : Prop :=
  (rm.cells = mc ∧ rm.slots = ms ∧ rm.frames + 1 ≤ R.frames ∧ 8 + (maxL + 11) + rm.locals ≤ R.locals ∧ (∀ w ∈ ws, ∀ (a' : Array Value) (U : State), s.WarmedH U.vm → w.before a' U = true) ∧ Cond.codeWith y bytes maxL ret hh ∈ ws) ∧
  (Cond.codeWith y bytes maxL ret hh).before args s = true ∧ (Cond.initialized y.cls).before args s = true ∧ (y.cls ≠ "java/lang/invoke/MethodHandle" ∧ y.cls ≠ "java/lang/invoke/VarHandle") ∧
  (∀ sig, parseMethodDescriptor y.desc = some sig → n = sig.parameters.length) ∧ (Cond.methodLink own index y).before args s = true ∧ (Cond.static y).before args s = true
theorem vx_cwSW {own : String} {index maxL mc ms : Nat} {y : MethodName} {bytes : ByteArray} {ret : Option FieldType} {hh : List (Nat × Nat × Nat × Nat)} {Ts ws ws' : List Cond} {rm : Room} (n : Nat) (ht : ∀ w ∈ Ts, w.before args s = true) (hT : GoodIn Ts (va_wsS own index y ws)) (hw : ws = Cond.codeWith y bytes maxL ret hh :: ws') (hrc : rm.cells = mc) (hrs : rm.slots = ms)
    (hd : y.cls ≠ "java/lang/invoke/MethodHandle" ∧ y.cls ≠ "java/lang/invoke/VarHandle" ∧ (parseMethodDescriptor y.desc).map (fun d => d.parameters.length) = some n) (hR : rm.frames + 1 ≤ R.frames ∧ 8 + (maxL + 11) + rm.locals ≤ R.locals) :
    vx_CSW R s args own index y bytes maxL ret hh ws rm mc ms n := by
  have ok : ∀ w ∈ va_wsS own index y ws, w.before args s = true := fun w h => ht w (hT w h).1
  have hG : GoodIn Ts ws := fun w h => hT w (by unfold va_wsS; exact List.mem_append_right _ h)
  have hc : Cond.codeWith y bytes maxL ret hh ∈ ws := by rw [hw]; exact List.mem_cons_self
  refine ⟨⟨hrc, hrs, hR.1, hR.2, pay_in ht hG, hc⟩, ht _ (hG _ hc).1, ok _ (by simp [va_wsS]), ⟨hd.1, hd.2.1⟩, fun sig h => ?_, ok _ (by simp [va_wsS]), ok _ (by simp [va_wsS])⟩
  have h2 := hd.2.2
  rw [h] at h2
  exact (Option.some.inj h2).symm
theorem vx_callSW (X : Stand p l e R s m args below meth c T locs cells slots) (hexec : p.tables.exec = Jvm.exec) {own : String} {index : Nat} {y : MethodName} {bytes : ByteArray} {maxL : Nat} {ret : Option FieldType} {hh : List (Nat × Nat × Nat × Nat)}
    (hown : s.vm.findClass own = some m.cls) (hlink : (Cond.methodLink own index y).before args s = true) (hstat : (Cond.static y).before args s = true) (hinit : (Cond.initialized y.cls).before args s = true)
    (hcode : (Cond.codeWith y bytes maxL ret hh).before args s = true) (hy : y.cls ≠ "java/lang/invoke/MethodHandle" ∧ y.cls ≠ "java/lang/invoke/VarHandle")
    {W9 : Nat} {Pre : Pt → Array Value → Prop} {Post : Pt → Array Value → Option Value → Pt → Prop} (hK : Back l R p e below s args y 3 W9 Pre Post)
    {g : JFrame} (hg : g.method = m) (hsize : g.locals.size = c.maxLocals) {argsL rest : List Value} (hlen : ∀ sig, parseMethodDescriptor y.desc = some sig → argsL.length = sig.parameters.length)
    (hstack : g.stack = argsL.reverse ++ rest) (hW : 2 * g.monitorRoom + (rest.map fun v => v.category).sum ≤ W9) (hdg : decode c.code g.pc = .ok (.invokestatic index, 3))
    (hpre : ∀ vm₁, s.WarmedH vm₁ → Pre ⟨T.setVm vm₁, locs, cells, slots⟩ argsL.toArray) :
    ∃ (v : Option Value) (vm₁ : Vm) (B : Pt), s.WarmedH vm₁ ∧ Stand p l e R s m args below meth c B.U B.locs B.cells B.slots ∧ Post ⟨T.setVm vm₁, locs, cells, slots⟩ argsL.toArray v B ∧
      ∀ target, Steps p.tables e below (B.U.setTop { g with pc := g.pc + 3, stack := v.toList ++ rest }) target → Steps p.tables e below (T.setTop g) target := by
  obtain ⟨mk, methM, cM, hnamed, hmethM, -, -, -, -, -, -, hsigM⟩ := Cond.codeWith_spec hcode
  have hstatic : methM.isStatic = true := Cond.static_spec hnamed hmethM hstat
  obtain ⟨kP, hkP, -⟩ := className_of_methodNamed hnamed
  have hinitP : kP.init = .initialized := Cond.initialized_spec (findClass_of_methodNamed hnamed) hkP hinit
  obtain ⟨vm₁, X₁, hstep₁⟩ := X.invokestatic hexec hown hlink hnamed hmethM hstatic hkP hinitP hy (g := g) hg (argsL := argsL) (rest := rest) (hlen _ hsigM) hstack hdg
  obtain ⟨v, B, X', hpost, hsteps⟩ := hK m meth c ⟨T.setVm vm₁, locs, cells, slots⟩ { g with stack := rest } (.invokestatic index) mk argsL.toArray X₁ hg hsize hdg hW (X₁.named hnamed) (hpre vm₁ X₁.warmed)
  exact ⟨v, vm₁, B, X₁.warmed, X', hpost, fun target h => hstep₁ _ fun acts => by rw [doInvoke_state]; exact hsteps.trans h⟩
theorem vx_runSW {y : MethodName} {bytes cc : ByteArray} {maxL nL mc ms n index : Nat} {ret : Option FieldType} {hh : List (Nat × Nat × Nat × Nat)} {ws : List Cond} {rm : Room} {Pc : Array Value → State → Prop} {Qc : Array Value → State → Outcome → State → Prop} {free : Addr → Prop} {Ts : List Cond} {own : String} {As rest : List Value} {g : JFrame}
    (S : CallFix p m c cc nL s args Ts own) (hM : Met l y ws rm Pc Qc mc ms free) (cw : vx_CSW R s args own index y bytes maxL ret hh ws rm mc ms n) (hp : PreS s H Pc As)
    (hg : g.method = m) (hn : As.length = n) (hsize : g.locals.size = nL) (hstack : g.stack = As.reverse ++ rest) (hW : 2 * g.monitorRoom + (rest.map fun v => v.category).sum ≤ 8) (hdg : decode cc g.pc = .ok (.invokestatic index, 3)) (hf : cells + mc ≤ R.cells ∧ slots + ms ≤ R.slots) :
    va_Run p l e R s m args below meth c H locs cells slots mc ms g rest (Qc As.toArray) (free) := by
  obtain ⟨⟨hrc, hrs, hfr, hlo, hws, hcw⟩, hcode, hini, hy, hlen, hl, hstt⟩ := cw
  have hK : Back l R p e below s args y 3 8 (PreOf R mc ms Pc) (PostOf Qc mc ms free) := va_backW (hh := hh) (bytes := bytes) (maxL := maxL) (ret := ret) hM hp.1 hrc hrs hfr hlo hws hcw (fun a' U hW => word_at hW (Or.inl (by first | rfl | simp [Cond.onTables, Cond.keeps, Cond.steady])) hini)
  obtain ⟨hx, hb, hml, ho, -⟩ := S
  intro T hT X
  obtain ⟨v, vm₁, ⟨U', l2, c2, s2⟩, hW₁, X', ⟨g', mk, t, L, e1, e2, hq, h1, hL, h2, h3⟩, st⟩ := vx_callSW X hx (hh := hh) (bytes := bytes) (maxL := maxL) (ret := ret) ho hl hstt hini hcode hy hK hg (hsize.trans hml.symm) (argsL := As) (rest := rest) (fun sig h => hn.trans (hlen sig h)) hstack hW (by rw [hb]; exact hdg)
    (fun vm₁ hW₁ => ⟨hf.1, hf.2, hp.2 (T.setVm vm₁) hT hW₁⟩)
  dsimp only [Pt.U, Pt.locs, Pt.cells, Pt.slots] at X' e1 e2 h1 h2 h3 st
  subst h1; subst h2; subst h3
  exact ⟨v, (T.setVm vm₁).calling g' mk As.toArray, t, U', L, hT, X', hL, e1, e2, hq, st⟩
/-- not caught here, past rows that name other classes: it goes on to the caller -/
theorem vx_outP {p : Program} {l : Launch} {e : Env} {R : Room} {s : State} {m : MethodId} {args : Array Value} {below : List Frame} {meth : Method} {c : Code} {H : Heap} {locs : List Loc} {cells slots : Nat} {free : Addr → Prop} {ls : Array Slot} {rest : List Value} {Qc : Array Value → State → Outcome → State → Prop} {XC : String → State → State → Prop}
    {pc : Nat} {own E : String} {ce : Cell} {q : Addr} {mc ms : Nat} (hown : s.vm.findClass own = some m.cls) (hlocks : meth.locks = false)
    (hpass : ∀ z ∈ c.exceptionTable.toList, covers z pc = false ∨ (z.catchType ≠ 0 ∧ ∃ nm : String, (Cond.classLink own z.catchType nm).before args s = true ∧ va_Nc E nm s)) (hcell : H[q]? = some ce) (hv : ce.vm = .none) (hcl : s.vm.findClass E = some ce.cls)
    (hx : ∀ t : State, t.heap = H → s.vm.Alike t.vm → XC E s t) (hf : ∀ z ∈ locs, free z.base) (hc : cells ≤ mc) (hs : slots ≤ ms) :
    vx_W p l e R s m args below meth c H locs cells slots (vx_MQ below Qc XC args s mc ms free) (F0 m pc ls rest) q := by
  intro T hT X
  have hpl : e.platform.magicAccessors = ({} : Platform).magicAccessors := by rw [X.admits.platform]
  obtain ⟨vm', hW', X', st⟩ := X.outThrough hlocks q (g := F0 m pc ls rest) rfl rfl rfl (cell := ce) (by rw [hT]; exact hcell) (by rw [hv]; rfl)
    (by obtain ⟨k9, h9, -⟩ := Vm.findClass_spec hcl; exact ⟨k9, h9⟩) (fun z hz => by
      rcases hpass z hz with h | ⟨hz0, nm, hl1, hn1⟩
      · exact Or.inl h
      · obtain ⟨c6, hc6, hcl6⟩ := Cond.classLink_spec hown hl1 e.platform hpl
        obtain ⟨a8, b8, h1, h2, h3⟩ := hn1
        cases Option.some.inj (h1.symm.trans hcl)
        cases Option.some.inj (h2.symm.trans hc6)
        exact Or.inr ⟨hz0, _, hcl6, h3⟩)
  obtain ⟨g₀, hfr⟩ := X'.frames_eq
  have hcell9 : ((T.setVm vm').setFrames (.throwing q :: below)).heap[q]? = some ce := by
    show T.heap[q]? = some ce
    rw [hT]; exact hcell
  have hend : Ended ((T.setVm vm').setFrames (.throwing q :: below)) below (.threw q) := State.frames_setFrames _ (State.cur_lt_of_frames hfr)
  refine ⟨(T.setVm vm').setFrames (.throwing q :: below), ?_, .threw q, X'.here.running, hend, Or.inr ⟨q, rfl, E, ce, locs, hx _ hT (X'.ends _).1.alike, hcell9, hv, hcl, (X'.ends _).1, (X'.ends _).2.mono hc hs, hf⟩⟩
  rw [X.pushThrowing_eq]
  exact st
/-- a thing of a world lies in the heap -/
theorem vx_lt {D : va_G} {cl : List vw_C} {ws : va_W} {H1 : Heap} (h : va_P D cl ws H1) {k : Nat} {q : Nat × va_E} (hk : ws[k]? = some q) : q.1 < H1.size := (h k q hk).lt
end VXS
/-! ===== END ===== -/
/-! ===== BEGIN methods with a table of their own: called by a name, returning or throwing ===== -/
section VXH
/-! vx_backW, vx_callVX, vx_callSX, vx_callVW, vx_runVW, vx_runVX, vx_runSX, vx_ofWH follow the same proofs as their sisters above (Free/Laws.lean, Shelf42/LK1.lean); vx_outP calls Shelf42/NT130.lean (outThrough). -/
section
variable {l : Launch} {R : Room} {p : Program} {e : Env} {below : List Frame} {s : State} {sargs : Array Value} {y : MethodName} {len W9 : Nat}
theorem vx_backW {ws : List Cond} {rm : Room} {Pc : Array Value → State → Prop} {Qc : Array Value → State → Outcome → State → Prop} {XC : String → State → State → Prop} {mc ms : Nat} {free : Addr → Prop} {bytes : ByteArray} {maxL : Nat} {ret : Option FieldType} {hh : List (Nat × Nat × Nat × Nat)}
    (hM : vx_Met l y ws rm Pc Qc XC mc ms free) (hblind : FrameBlind Pc) (hrc : rm.cells = mc) (hrs : rm.slots = ms)
    (hframes : rm.frames + 1 ≤ R.frames) (hlocals : W9 + (maxL + 11) + rm.locals ≤ R.locals)
    (hws : ∀ w ∈ ws, ∀ a' U, s.WarmedH U.vm → w.before a' U = true) (hcode : Cond.codeWith y bytes maxL ret hh ∈ ws) (hinit : ∀ a' U, s.WarmedH U.vm → (Cond.initialized y.cls).before a' U = true) :
    vx_Back l R p e below s sargs y len W9 (PreOf R mc ms Pc) (PostOf Qc mc ms free) (vx_Post XC mc ms free) := by
  intro m meth c A g ig mk a X hg hsize hdg hW hn hp
  have h1 : (headSpec ws rm).pre.before a A.U = true := atoms_intro fun w hw => hws w hw _ _ X.warmed
  have h2 : (Cond.codeWith y bytes maxL ret hh).before a A.U = true := hws _ hcode _ _ X.warmed
  have h3 : (Cond.initialized y.cls).before a A.U = true := hinit _ _ X.warmed
  have h4 : A.cells + (headSpec ws rm).room.cells ≤ R.cells := by rw [show (headSpec ws rm).room.cells = mc from hrc]; exact hp.1
  have h5 : A.slots + (headSpec ws rm).room.slots ≤ R.slots := by rw [show (headSpec ws rm).room.slots = ms from hrs]; exact hp.2.1
  have hPc : Pc a (A.U.calling g mk a) := hblind _ _ _ _ hp.2.2
  obtain ⟨U, Ls, c0, s0⟩ := A
  dsimp only [Pt.U, Pt.locs, Pt.cells, Pt.slots] at h1 h2 h3 h4 h5 X hn hPc ⊢
  obtain ⟨m9, methY, cY, hn9, hmY, hcY, -, hlY, -⟩ := Cond.codeWith_spec h2
  cases Option.some.inj (hn9.symm.trans hn)
  obtain ⟨kY, hkY, -⟩ := className_of_methodNamed hn
  have hinitY : kY.init = .initialized := Cond.initialized_spec (findClass_of_methodNamed hn) hkY h3
  have h : At U g.method c below := by rw [hg]; exact X.here
  have hlocals9 : W9 + (maxL + 11) + (headSpec ws rm).room.locals ≤ R.locals := hlocals
  have happ : (headSpec ws rm).appliesLoose y e.platform (U.calling g mk a) = true :=
    Spec.appliesLoose_calling (g := g) h hdg hn hkY hinitY
      (X.room_calling (g := g) (R' := (headSpec ws rm).room) hsize hmY hcY hframes (by rw [hlY]; omega) h4 h5) h1
  obtain ⟨mid, hmid⟩ := h.above
  have hfr : (U.setTop g).frames = (.java g :: mid) ++ below := by rw [State.frames_setTop' g h.top, hmid]; rfl
  obtain ⟨o, s₂, hsteps, -, hend, hq⟩ := Steps.callFree hM p X.admits X.cas X.clock (acts := []) hfr happ hPc trivial
  have hq' : vx_Q Qc XC mc ms free a (U.calling g mk a) o s₂ := hq
  rw [State.frames_setTop' g h.top] at hend
  obtain ⟨g₀, hg0⟩ := Option.isSome_iff_exists.mp h.top
  obtain ⟨r, hr⟩ := State.topJava?_eq_some.mp hg0
  have hr' : (({ U with heap := s₂.heap, slotsUsed := s₂.slotsUsed } : State).setVm s₂.vm).frames = .java g₀ :: r := hr
  rcases hq' with ⟨hqc, L, hfe, hL⟩ | ⟨q, rfl, E, ce, L, hx, hce, hcv, hcl, hW₂, hsm, hL⟩
  · obtain ⟨⟨v, rfl⟩, hW₂, e2, q2, q3, q4, q5, q6⟩ := id hfe
    have e3 : s₂ = ({ (U.calling g mk a).setFrames s₂.frames with heap := s₂.heap, slotsUsed := s₂.slotsUsed } : State).setVm s₂.vm := by
      have : s₂ = ({ s₂ with vm := (U.calling g mk a).vm } : State).setVm s₂.vm := rfl
      rw [e2] at this
      exact this
    obtain ⟨c₂, i₂, len₂, hc₂, hd₂, hf₂⟩ := hend
    have hW' : U.WarmedH s₂.vm := hW₂
    have hcc : c₂ = c := by
      have h1 : s₂.code? g.method = U.code? g.method := by
        rw [State.code?_eq, State.code?_eq, hW'.alike.method?]
      exact Option.some.inj (hc₂.symm.trans (h1.trans h.code))
    subst hcc
    have hlen : len₂ = len := by rw [hdg] at hd₂; cases hd₂; rfl
    subst hlen
    have hs₂ : s₂ = (({ U with heap := s₂.heap, slotsUsed := s₂.slotsUsed } : State).setVm s₂.vm).setTop { g with pc := g.pc + len₂, stack := v.toList ++ g.stack } := by
      refine e3.trans ?_
      rw [hf₂, State.calling_eq h.top, State.setFrames_setFrames, State.setTop_of_frames _ hr', hr]
      rfl
    have hsame : U.sameButNew ({ U with heap := s₂.heap, slotsUsed := s₂.slotsUsed } : State) L mc ms := by
      refine ⟨?_, q2, q3, q4, q5, q6⟩
      obtain ⟨t, ht, -⟩ := State.frames_cons hr
      show ({ U with heap := s₂.heap, slotsUsed := s₂.slotsUsed } : State) = { U.setFrames U.frames with heap := s₂.heap, slotsUsed := s₂.slotsUsed }
      rw [State.setFrames_self ht]
    subst hg
    refine Or.inl ⟨v, ⟨(({ U with heap := s₂.heap, slotsUsed := s₂.slotsUsed } : State).setVm s₂.vm), Ls ++ L, c0 + mc, s0 + ms⟩,
      ⟨X.admits, X.cas, X.clock, X.frames, X.room, X.hears, X.method, X.code, (X.here.setHeapUsed s₂.heap s₂.slotsUsed).setVm hW'.alike, X.tail, State.WarmedH.trans X.warmed hW', X.limits, X.bytes, X.same.trans (hsame.setVm s.vm)⟩,
      ⟨g, mk, s₂, L, rfl, rfl, hqc, rfl, hL, rfl, rfl⟩, ?_⟩
    show Steps p.tables e below _ ((({ U with heap := s₂.heap, slotsUsed := s₂.slotsUsed } : State).setVm s₂.vm).setTop { g with pc := g.pc + len₂, stack := v.toList ++ g.stack })
    rw [← hs₂]
    exact hsteps
  · obtain ⟨e2, q2, q3, q4, q5, q6⟩ := id hsm
    have e3 : s₂ = ({ (U.calling g mk a).setFrames s₂.frames with heap := s₂.heap, slotsUsed := s₂.slotsUsed } : State).setVm s₂.vm := by
      have : s₂ = ({ s₂ with vm := (U.calling g mk a).vm } : State).setVm s₂.vm := rfl
      rw [e2] at this
      exact this
    have hf₂ : s₂.frames = .throwing q :: .java g :: U.frames.tail := hend
    have hW' : U.WarmedH s₂.vm := hW₂
    have hs₂ : s₂ = ((({ U with heap := s₂.heap, slotsUsed := s₂.slotsUsed } : State).setVm s₂.vm).setTop g).pushFrame (.throwing q) := by
      refine e3.trans ?_
      rw [hf₂, State.calling_eq h.top, State.setFrames_setFrames, State.pushFrame, State.frames_setTop _ hr', State.setTop_of_frames _ hr', State.setFrames_setFrames, hr]
      rfl
    have hsame : U.sameButNew ({ U with heap := s₂.heap, slotsUsed := s₂.slotsUsed } : State) L mc ms := by
      refine ⟨?_, q2, q3, q4, q5, q6⟩
      obtain ⟨t, ht, -⟩ := State.frames_cons hr
      show ({ U with heap := s₂.heap, slotsUsed := s₂.slotsUsed } : State) = { U.setFrames U.frames with heap := s₂.heap, slotsUsed := s₂.slotsUsed }
      rw [State.setFrames_self ht]
    subst hg
    refine Or.inr ⟨q, ⟨(({ U with heap := s₂.heap, slotsUsed := s₂.slotsUsed } : State).setVm s₂.vm), Ls ++ L, c0 + mc, s0 + ms⟩,
      ⟨X.admits, X.cas, X.clock, X.frames, X.room, X.hears, X.method, X.code, (X.here.setHeapUsed s₂.heap s₂.slotsUsed).setVm hW'.alike, X.tail, State.WarmedH.trans X.warmed hW', X.limits, X.bytes, X.same.trans (hsame.setVm s.vm)⟩,
      ⟨g, mk, s₂, L, E, ce, rfl, rfl, hx, hce, hcv, hcl, rfl, hL, rfl, rfl⟩, ?_⟩
    show Steps p.tables e below _ (((({ U with heap := s₂.heap, slotsUsed := s₂.slotsUsed } : State).setVm s₂.vm).setTop g).pushFrame (.throwing q))
    rw [← hs₂]
    exact hsteps
end
variable {p : Program} {l : Launch} {e : Env} {R : Room} {s : State} {m : MethodId} {args : Array Value} {below : List Frame} {meth : Method} {c : Code} {T : State} {H : Heap} {locs : List Loc} {cells slots : Nat}
theorem vx_callVX (X : Stand p l e R s m args below meth c T locs cells slots) (hexec : p.tables.exec = Jvm.exec) {own C : String} {index : Nat} {y : MethodName} {bytes : ByteArray} {maxL : Nat} {ret : Option FieldType} {hh : List (Nat × Nat × Nat × Nat)}
    (hown : s.vm.findClass own = some m.cls) (hlink : (Cond.methodLink own index y).before args s = true) (hinst : (Cond.instanceMethod y).before args s = true) (hsel : (Cond.selects C y y).before args s = true)
    (hcode : (Cond.codeWith y bytes maxL ret hh).before args s = true) (hy : y.cls ≠ "java/lang/invoke/MethodHandle" ∧ y.cls ≠ "java/lang/invoke/VarHandle")
    {W9 : Nat} {Pre : Pt → Array Value → Prop} {Post : Pt → Array Value → Option Value → Pt → Prop} {PostX : Pt → Array Value → Addr → Pt → Prop} (hK : vx_Back l R p e below s args y 3 W9 Pre Post PostX)
    {b : Addr} {cellB : Cell} (hcell : T.heap[b]? = some cellB) (hobj : cellB.vm.isStatics = false) (hcls : s.vm.findClass C = some cellB.cls)
    {g : JFrame} (hg : g.method = m) (hsize : g.locals.size = c.maxLocals) {argsL rest : List Value} (hlen : ∀ sig, parseMethodDescriptor y.desc = some sig → argsL.length = sig.parameters.length)
    (hstack : g.stack = argsL.reverse ++ .ref b :: rest) (hW : 2 * g.monitorRoom + (rest.map fun v => v.category).sum ≤ W9) (hdg : decode c.code g.pc = .ok (.invokevirtual index, 3))
    (hpre : ∀ vm₁, s.WarmedH vm₁ → Pre ⟨T.setVm vm₁, locs, cells, slots⟩ (Value.ref b :: argsL).toArray) :
    (∃ (v : Option Value) (vm₁ : Vm) (B : Pt), s.WarmedH vm₁ ∧ Stand p l e R s m args below meth c B.U B.locs B.cells B.slots ∧ Post ⟨T.setVm vm₁, locs, cells, slots⟩ (Value.ref b :: argsL).toArray v B ∧
      ∀ target, Steps p.tables e below (B.U.setTop { g with pc := g.pc + 3, stack := v.toList ++ rest }) target → Steps p.tables e below (T.setTop g) target) ∨
    (∃ (q : Addr) (vm₁ : Vm) (B : Pt), s.WarmedH vm₁ ∧ Stand p l e R s m args below meth c B.U B.locs B.cells B.slots ∧ PostX ⟨T.setVm vm₁, locs, cells, slots⟩ (Value.ref b :: argsL).toArray q B ∧
      Steps p.tables e below (T.setTop g) ((B.U.setTop { g with stack := rest }).pushFrame (.throwing q))) := by
  obtain ⟨mk, methM, hnamed, hmethM, hstM, habM⟩ := Cond.instanceMethod_spec hinst
  obtain ⟨m8, methM', cM, hn8, hmethM', -, -, -, -, -, -, hsigM⟩ := Cond.codeWith_spec hcode
  cases Option.some.inj (hn8.symm.trans hnamed)
  cases hmethM.symm.trans hmethM'
  obtain ⟨c2, r2, m2, q1, q2, q3, q4, kP, hkP, hkPi⟩ := Cond.selects_spec hsel
  cases hcls.symm.trans q1
  cases (State.methodFound?_of_named hnamed hy).symm.trans q2
  cases hnamed.symm.trans q3
  have hselP : selectMethod e.platform s.vm cellB.cls mk = .method mk := by rw [Launch.admits_selectMethod X.admits]; exact q4
  obtain ⟨vm₁, X₁, hstep₁⟩ := X.invokevirtual hexec hown hlink hnamed hmethM hstM hkP hkPi hy (a := b) (cell := cellB) hcell
    (fun z h => by rw [h] at hobj; cases hobj) hselP hmethM habM hkP hkPi (g := g) hg (argsL := argsL) (rest := rest) (hlen _ hsigM) hstack hdg
  rcases hK m meth c ⟨T.setVm vm₁, locs, cells, slots⟩ { g with stack := rest } (.invokevirtual index) mk (Value.ref b :: argsL).toArray X₁ hg hsize hdg hW (X₁.named hnamed) (hpre vm₁ X₁.warmed) with ⟨v, B, X', hpost, hsteps⟩ | ⟨q, B, X', hpost, hsteps⟩
  · exact Or.inl ⟨v, vm₁, B, X₁.warmed, X', hpost, fun target h => hstep₁ _ fun acts => by rw [doInvoke_state]; exact hsteps.trans h⟩
  · exact Or.inr ⟨q, vm₁, B, X₁.warmed, X', hpost, hstep₁ _ fun acts => by rw [doInvoke_state]; exact hsteps⟩
theorem vx_callSX (X : Stand p l e R s m args below meth c T locs cells slots) (hexec : p.tables.exec = Jvm.exec) {own : String} {index : Nat} {y : MethodName} {bytes : ByteArray} {maxL : Nat} {ret : Option FieldType} {hh : List (Nat × Nat × Nat × Nat)}
    (hown : s.vm.findClass own = some m.cls) (hlink : (Cond.methodLink own index y).before args s = true) (hstat : (Cond.static y).before args s = true) (hinit : (Cond.initialized y.cls).before args s = true)
    (hcode : (Cond.codeWith y bytes maxL ret hh).before args s = true) (hy : y.cls ≠ "java/lang/invoke/MethodHandle" ∧ y.cls ≠ "java/lang/invoke/VarHandle")
    {W9 : Nat} {Pre : Pt → Array Value → Prop} {Post : Pt → Array Value → Option Value → Pt → Prop} {PostX : Pt → Array Value → Addr → Pt → Prop} (hK : vx_Back l R p e below s args y 3 W9 Pre Post PostX)
    {g : JFrame} (hg : g.method = m) (hsize : g.locals.size = c.maxLocals) {argsL rest : List Value} (hlen : ∀ sig, parseMethodDescriptor y.desc = some sig → argsL.length = sig.parameters.length)
    (hstack : g.stack = argsL.reverse ++ rest) (hW : 2 * g.monitorRoom + (rest.map fun v => v.category).sum ≤ W9) (hdg : decode c.code g.pc = .ok (.invokestatic index, 3))
    (hpre : ∀ vm₁, s.WarmedH vm₁ → Pre ⟨T.setVm vm₁, locs, cells, slots⟩ argsL.toArray) :
    (∃ (v : Option Value) (vm₁ : Vm) (B : Pt), s.WarmedH vm₁ ∧ Stand p l e R s m args below meth c B.U B.locs B.cells B.slots ∧ Post ⟨T.setVm vm₁, locs, cells, slots⟩ argsL.toArray v B ∧
      ∀ target, Steps p.tables e below (B.U.setTop { g with pc := g.pc + 3, stack := v.toList ++ rest }) target → Steps p.tables e below (T.setTop g) target) ∨
    (∃ (q : Addr) (vm₁ : Vm) (B : Pt), s.WarmedH vm₁ ∧ Stand p l e R s m args below meth c B.U B.locs B.cells B.slots ∧ PostX ⟨T.setVm vm₁, locs, cells, slots⟩ argsL.toArray q B ∧
      Steps p.tables e below (T.setTop g) ((B.U.setTop { g with stack := rest }).pushFrame (.throwing q))) := by
  obtain ⟨mk, methM, cM, hnamed, hmethM, -, -, -, -, -, -, hsigM⟩ := Cond.codeWith_spec hcode
  have hstatic : methM.isStatic = true := Cond.static_spec hnamed hmethM hstat
  obtain ⟨kP, hkP, -⟩ := className_of_methodNamed hnamed
  have hinitP : kP.init = .initialized := Cond.initialized_spec (findClass_of_methodNamed hnamed) hkP hinit
  obtain ⟨vm₁, X₁, hstep₁⟩ := X.invokestatic hexec hown hlink hnamed hmethM hstatic hkP hinitP hy (g := g) hg (argsL := argsL) (rest := rest) (hlen _ hsigM) hstack hdg
  rcases hK m meth c ⟨T.setVm vm₁, locs, cells, slots⟩ { g with stack := rest } (.invokestatic index) mk argsL.toArray X₁ hg hsize hdg hW (X₁.named hnamed) (hpre vm₁ X₁.warmed) with ⟨v, B, X', hpost, hsteps⟩ | ⟨q, B, X', hpost, hsteps⟩
  · exact Or.inl ⟨v, vm₁, B, X₁.warmed, X', hpost, fun target h => hstep₁ _ fun acts => by rw [doInvoke_state]; exact hsteps.trans h⟩
  · exact Or.inr ⟨q, vm₁, B, X₁.warmed, X', hpost, hstep₁ _ fun acts => by rw [doInvoke_state]; exact hsteps⟩
theorem vx_callVW (X : Stand p l e R s m args below meth c T locs cells slots) (hexec : p.tables.exec = Jvm.exec) {own C : String} {index : Nat} {y : MethodName} {bytes : ByteArray} {maxL : Nat} {ret : Option FieldType} {hh : List (Nat × Nat × Nat × Nat)}
    (hown : s.vm.findClass own = some m.cls) (hlink : (Cond.methodLink own index y).before args s = true) (hinst : (Cond.instanceMethod y).before args s = true) (hsel : (Cond.selects C y y).before args s = true)
    (hcode : (Cond.codeWith y bytes maxL ret hh).before args s = true) (hy : y.cls ≠ "java/lang/invoke/MethodHandle" ∧ y.cls ≠ "java/lang/invoke/VarHandle")
    {W9 : Nat} {Pre : Pt → Array Value → Prop} {Post : Pt → Array Value → Option Value → Pt → Prop} (hK : Back l R p e below s args y 3 W9 Pre Post)
    {b : Addr} {cellB : Cell} (hcell : T.heap[b]? = some cellB) (hobj : cellB.vm.isStatics = false) (hcls : s.vm.findClass C = some cellB.cls)
    {g : JFrame} (hg : g.method = m) (hsize : g.locals.size = c.maxLocals) {argsL rest : List Value} (hlen : ∀ sig, parseMethodDescriptor y.desc = some sig → argsL.length = sig.parameters.length)
    (hstack : g.stack = argsL.reverse ++ .ref b :: rest) (hW : 2 * g.monitorRoom + (rest.map fun v => v.category).sum ≤ W9) (hdg : decode c.code g.pc = .ok (.invokevirtual index, 3))
    (hpre : ∀ vm₁, s.WarmedH vm₁ → Pre ⟨T.setVm vm₁, locs, cells, slots⟩ (Value.ref b :: argsL).toArray) :
    ∃ (v : Option Value) (vm₁ : Vm) (B : Pt), s.WarmedH vm₁ ∧ Stand p l e R s m args below meth c B.U B.locs B.cells B.slots ∧ Post ⟨T.setVm vm₁, locs, cells, slots⟩ (Value.ref b :: argsL).toArray v B ∧
      ∀ target, Steps p.tables e below (B.U.setTop { g with pc := g.pc + 3, stack := v.toList ++ rest }) target → Steps p.tables e below (T.setTop g) target := by
  obtain ⟨mk, methM, hnamed, hmethM, hstM, habM⟩ := Cond.instanceMethod_spec hinst
  obtain ⟨m8, methM', cM, hn8, hmethM', -, -, -, -, -, -, hsigM⟩ := Cond.codeWith_spec hcode
  cases Option.some.inj (hn8.symm.trans hnamed)
  cases hmethM.symm.trans hmethM'
  obtain ⟨c2, r2, m2, q1, q2, q3, q4, kP, hkP, hkPi⟩ := Cond.selects_spec hsel
  cases hcls.symm.trans q1
  cases (State.methodFound?_of_named hnamed hy).symm.trans q2
  cases hnamed.symm.trans q3
  have hselP : selectMethod e.platform s.vm cellB.cls mk = .method mk := by rw [Launch.admits_selectMethod X.admits]; exact q4
  obtain ⟨vm₁, X₁, hstep₁⟩ := X.invokevirtual hexec hown hlink hnamed hmethM hstM hkP hkPi hy (a := b) (cell := cellB) hcell
    (fun z h => by rw [h] at hobj; cases hobj) hselP hmethM habM hkP hkPi (g := g) hg (argsL := argsL) (rest := rest) (hlen _ hsigM) hstack hdg
  obtain ⟨v, B, X', hpost, hsteps⟩ := hK m meth c ⟨T.setVm vm₁, locs, cells, slots⟩ { g with stack := rest } (.invokevirtual index) mk (Value.ref b :: argsL).toArray X₁ hg hsize hdg hW (X₁.named hnamed) (hpre vm₁ X₁.warmed)
  exact ⟨v, vm₁, B, X₁.warmed, X', hpost, fun target h => hstep₁ _ fun acts => by rw [doInvoke_state]; exact hsteps.trans h⟩
abbrev vx_CVW (R : Room) (s : State) (args : Array Value) (own C : String) (index : Nat) (y : MethodName) (bytes : ByteArray) (maxL : Nat) (ret : Option FieldType) (hh : List (Nat × Nat × Nat × Nat)) (ws : List Cond) (rm : Room) (mc ms n : Nat) : Prop :=
  (rm.cells = mc ∧ rm.slots = ms ∧ rm.frames + 1 ≤ R.frames ∧ 8 + (maxL + 11) + rm.locals ≤ R.locals ∧ (∀ w ∈ ws, ∀ (a' : Array Value) (U : State), s.WarmedH U.vm → w.before a' U = true) ∧ Cond.codeWith y bytes maxL ret hh ∈ ws) ∧
  (Cond.codeWith y bytes maxL ret hh).before args s = true ∧ (Cond.initialized y.cls).before args s = true ∧ (y.cls ≠ "java/lang/invoke/MethodHandle" ∧ y.cls ≠ "java/lang/invoke/VarHandle") ∧
  (∀ sig, parseMethodDescriptor y.desc = some sig → n = sig.parameters.length) ∧ (Cond.methodLink own index y).before args s = true ∧ (Cond.instanceMethod y).before args s = true ∧ (Cond.selects C y y).before args s = true
theorem vx_cwVW {own C : String} {index maxL mc ms : Nat} {y : MethodName} {bytes : ByteArray} {ret : Option FieldType} {hh : List (Nat × Nat × Nat × Nat)} {Ts ws ws' : List Cond} {rm : Room} (n : Nat) (ht : ∀ w ∈ Ts, w.before args s = true) (hT : GoodIn Ts (wsV own index C y ws)) (hw : ws = Cond.codeWith y bytes maxL ret hh :: ws') (hrc : rm.cells = mc) (hrs : rm.slots = ms)
    (hd : y.cls = C ∧ y.cls ≠ "java/lang/invoke/MethodHandle" ∧ y.cls ≠ "java/lang/invoke/VarHandle" ∧ (parseMethodDescriptor y.desc).map (fun d => d.parameters.length) = some n) (hR : rm.frames + 1 ≤ R.frames ∧ 8 + (maxL + 11) + rm.locals ≤ R.locals) :
    vx_CVW R s args own C index y bytes maxL ret hh ws rm mc ms n := by
  obtain ⟨hC, hd⟩ := hd
  subst hC
  have ok : ∀ w ∈ wsV own index y.cls y ws, w.before args s = true := fun w h => ht w (hT w h).1
  have hG : GoodIn Ts ws := fun w h => hT w (by unfold wsV; exact List.mem_append_right _ h)
  have hc : Cond.codeWith y bytes maxL ret hh ∈ ws := by rw [hw]; exact List.mem_cons_self
  refine ⟨⟨hrc, hrs, hR.1, hR.2, pay_in ht hG, hc⟩, ht _ (hG _ hc).1, ok _ (by simp [wsV]), ⟨hd.1, hd.2.1⟩, fun sig h => ?_, ok _ (by simp [wsV]), ok _ (by simp [wsV]), ok _ (by simp [wsV])⟩
  have h2 := hd.2.2
  rw [h] at h2
  exact (Option.some.inj h2).symm
theorem vx_runVW {y : MethodName} {bytes cc : ByteArray} {maxL nL mc ms n index : Nat} {ret : Option FieldType} {hh : List (Nat × Nat × Nat × Nat)} {ws : List Cond} {rm : Room} {Pc : Array Value → State → Prop} {Qc : Array Value → State → Outcome → State → Prop} {free : Addr → Prop} {Ts : List Cond} {own C : String} {b : Addr} {As rest : List Value} {g : JFrame}
    (S : CallFix p m c cc nL s args Ts own) (hM : Met l y ws rm Pc Qc mc ms free) (cw : vx_CVW R s args own C index y bytes maxL ret hh ws rm mc ms n) (hp : PreV s H C b Pc As)
    (hg : g.method = m) (hn : As.length = n) (hsize : g.locals.size = nL) (hstack : g.stack = As.reverse ++ .ref b :: rest) (hW : 2 * g.monitorRoom + (rest.map fun v => v.category).sum ≤ 8) (hdg : decode cc g.pc = .ok (.invokevirtual index, 3)) (hf : cells + mc ≤ R.cells ∧ slots + ms ≤ R.slots) :
    va_Run p l e R s m args below meth c H locs cells slots mc ms g rest (Qc (Value.ref b :: As).toArray) free := by
  obtain ⟨⟨hrc, hrs, hfr, hlo, hws, hcw⟩, hcode, hini, hy, hlen, hl, hin, hse⟩ := cw
  have hK : Back l R p e below s args y 3 8 (PreOf R mc ms Pc) (PostOf Qc mc ms free) := va_backW (hh := hh) (bytes := bytes) (maxL := maxL) (ret := ret) hM hp.1 hrc hrs hfr hlo hws hcw (fun a' U hW => word_at hW (Or.inl (by first | rfl | simp [Cond.onTables, Cond.keeps, Cond.steady])) hini)
  obtain ⟨hx, hb, hml, ho, -⟩ := S
  obtain ⟨-, ⟨cellB, hcB, hoB, hclB⟩, hPc⟩ := hp
  intro T hT X
  obtain ⟨v, vm₁, ⟨U', l2, c2, s2⟩, hW₁, X', ⟨g', mk, t, L, e1, e2, hq, h1, hL, h2, h3⟩, st⟩ := vx_callVW X hx (C := C) (hh := hh) (bytes := bytes) (maxL := maxL) (ret := ret) ho hl hin hse hcode hy hK (by rw [hT]; exact hcB) hoB hclB hg (hsize.trans hml.symm) (argsL := As) (rest := rest) (fun sig h => hn.trans (hlen sig h)) hstack hW (by rw [hb]; exact hdg)
    (fun vm₁ hW₁ => ⟨hf.1, hf.2, hPc (T.setVm vm₁) hT hW₁⟩)
  dsimp only [Pt.U, Pt.locs, Pt.cells, Pt.slots] at X' e1 e2 h1 h2 h3 st
  subst h1; subst h2; subst h3
  exact ⟨v, (T.setVm vm₁).calling g' mk (Value.ref b :: As).toArray, t, U', L, hT, X', hL, e1, e2, hq, st⟩
section
variable {y : MethodName} {bytes cc : ByteArray} {maxL nL mc ms n index : Nat} {ret : Option FieldType} {ws : List Cond} {rm : Room} {Pc : Array Value → State → Prop} {Qc : Array Value → State → Outcome → State → Prop} {XC : String → State → State → Prop} {free : Addr → Prop} {Ts : List Cond} {own C : String} {b : Addr} {As rest : List Value} {g : JFrame}
theorem vx_runVX {hh : List (Nat × Nat × Nat × Nat)} (S : CallFix p m c cc nL s args Ts own) (hM : vx_Met l y ws rm Pc Qc XC mc ms free) (cw : vx_CVW R s args own C index y bytes maxL ret hh ws rm mc ms n) (hp : PreV s H C b Pc As)
    (hg : g.method = m) (hn : As.length = n) (hsize : g.locals.size = nL) (hstack : g.stack = As.reverse ++ .ref b :: rest) (hW : 2 * g.monitorRoom + (rest.map fun v => v.category).sum ≤ 8) (hdg : decode cc g.pc = .ok (.invokevirtual index, 3)) (hf : cells + mc ≤ R.cells ∧ slots + ms ≤ R.slots) :
    vx_Run p l e R s m args below meth c H locs cells slots mc ms g rest (Qc (Value.ref b :: As).toArray) XC free := by
  obtain ⟨⟨hrc, hrs, hfr, hlo, hws, hcw⟩, hcode, hini, hy, hlen, hl, hin, hse⟩ := cw
  have hK : vx_Back l R p e below s args y 3 8 (PreOf R mc ms Pc) (PostOf Qc mc ms free) (vx_Post XC mc ms free) := vx_backW (hh := hh) (bytes := bytes) (maxL := maxL) (ret := ret) hM hp.1 hrc hrs hfr hlo hws hcw (fun a' U hW => word_at hW (Or.inl (by first | rfl | simp [Cond.onTables, Cond.keeps, Cond.steady])) hini)
  obtain ⟨hx, hb, hml, ho, -⟩ := S
  obtain ⟨-, ⟨cellB, hcB, hoB, hclB⟩, hPc⟩ := hp
  intro T hT X
  rcases vx_callVX X hx (C := C) (hh := hh) (bytes := bytes) (maxL := maxL) (ret := ret) ho hl hin hse hcode hy hK (by rw [hT]; exact hcB) hoB hclB hg (hsize.trans hml.symm) (argsL := As) (rest := rest) (fun sig h => hn.trans (hlen sig h)) hstack hW (by rw [hb]; exact hdg)
    (fun vm₁ hW₁ => ⟨hf.1, hf.2, hPc (T.setVm vm₁) hT hW₁⟩) with ⟨v, vm₁, ⟨U', l2, c2, s2⟩, hW₁, X', ⟨g', mk, t, L, e1, e2, hq, h1, hL, h2, h3⟩, st⟩ | ⟨q, vm₁, ⟨U', l2, c2, s2⟩, hW₁, X', ⟨g', mk, t, L, E, ce, e1, e2, hq, hce, hcv, hcl, h1, hL, h2, h3⟩, st⟩
  · dsimp only [Pt.U, Pt.locs, Pt.cells, Pt.slots] at X' e1 e2 h1 h2 h3 st
    subst h1; subst h2; subst h3
    exact Or.inl ⟨v, (T.setVm vm₁).calling g' mk (Value.ref b :: As).toArray, t, U', L, hT, X', hL, e1, e2, hq, st⟩
  · dsimp only [Pt.U, Pt.locs, Pt.cells, Pt.slots] at X' e1 e2 h1 h2 h3 st hcl
    subst h1; subst h2; subst h3
    exact Or.inr ⟨q, (T.setVm vm₁).calling g' mk (Value.ref b :: As).toArray, t, U', L, E, ce, hT, X', hL, e1, e2, hq, hce, hcv, vx_cls hW₁ hcl, st⟩
theorem vx_runSX {hh : List (Nat × Nat × Nat × Nat)} (S : CallFix p m c cc nL s args Ts own) (hM : vx_Met l y ws rm Pc Qc XC mc ms free) (cw : vx_CSW R s args own index y bytes maxL ret hh ws rm mc ms n) (hp : PreS s H Pc As)
    (hg : g.method = m) (hn : As.length = n) (hsize : g.locals.size = nL) (hstack : g.stack = As.reverse ++ rest) (hW : 2 * g.monitorRoom + (rest.map fun v => v.category).sum ≤ 8) (hdg : decode cc g.pc = .ok (.invokestatic index, 3)) (hf : cells + mc ≤ R.cells ∧ slots + ms ≤ R.slots) :
    vx_Run p l e R s m args below meth c H locs cells slots mc ms g rest (Qc As.toArray) XC free := by
  obtain ⟨⟨hrc, hrs, hfr, hlo, hws, hcw⟩, hcode, hini, hy, hlen, hl, hstt⟩ := cw
  have hK : vx_Back l R p e below s args y 3 8 (PreOf R mc ms Pc) (PostOf Qc mc ms free) (vx_Post XC mc ms free) := vx_backW (hh := hh) (bytes := bytes) (maxL := maxL) (ret := ret) hM hp.1 hrc hrs hfr hlo hws hcw (fun a' U hW => word_at hW (Or.inl (by first | rfl | simp [Cond.onTables, Cond.keeps, Cond.steady])) hini)
  obtain ⟨hx, hb, hml, ho, -⟩ := S
  intro T hT X
  rcases vx_callSX X hx (hh := hh) (bytes := bytes) (maxL := maxL) (ret := ret) ho hl hstt hini hcode hy hK hg (hsize.trans hml.symm) (argsL := As) (rest := rest) (fun sig h => hn.trans (hlen sig h)) hstack hW (by rw [hb]; exact hdg)
    (fun vm₁ hW₁ => ⟨hf.1, hf.2, hp.2 (T.setVm vm₁) hT hW₁⟩) with ⟨v, vm₁, ⟨U', l2, c2, s2⟩, hW₁, X', ⟨g', mk, t, L, e1, e2, hq, h1, hL, h2, h3⟩, st⟩ | ⟨q, vm₁, ⟨U', l2, c2, s2⟩, hW₁, X', ⟨g', mk, t, L, E, ce, e1, e2, hq, hce, hcv, hcl, h1, hL, h2, h3⟩, st⟩
  · dsimp only [Pt.U, Pt.locs, Pt.cells, Pt.slots] at X' e1 e2 h1 h2 h3 st
    subst h1; subst h2; subst h3
    exact Or.inl ⟨v, (T.setVm vm₁).calling g' mk As.toArray, t, U', L, hT, X', hL, e1, e2, hq, st⟩
  · dsimp only [Pt.U, Pt.locs, Pt.cells, Pt.slots] at X' e1 e2 h1 h2 h3 st hcl
    subst h1; subst h2; subst h3
    exact Or.inr ⟨q, (T.setVm vm₁).calling g' mk As.toArray, t, U', L, E, ce, hT, X', hL, e1, e2, hq, hce, hcv, vx_cls hW₁ hcl, st⟩
end
end VXH
theorem vx_ofWH {l : Launch} {y : MethodName} {ws ws' : List Cond} {rm : Room} {Pc : Array Value → State → Prop} {Qc : Array Value → State → Outcome → State → Prop} {XC : String → State → State → Prop} {mc ms : Nat} {free : Addr → Prop} {cc : ByteArray} {maxL : Nat} {ret : Option FieldType} {hh : List (Nat × Nat × Nat × Nat)}
    (hy : plainName y.cls = true) (hw : ws = Cond.codeWith y cc maxL ret hh :: ws')
    (body : ∀ p e s m args below meth c s₁, BodyLoose p l y (headSpec ws rm) cc maxL ret e s m args below meth c s₁ → c.maxLocals = maxL → Pc args s →
      W p l e (headSpec ws rm).room s m args below meth c s.heap [] 0 0 (vx_MQ below Qc XC args s mc ms free) (entryFrame m args maxL)) : vx_Met l y ws rm Pc Qc XC mc ms free := by
  refine MetFree.of_bodyS (code := cc) (maxLocals := maxL) (ret := ret) hy ?_ ?_
  · intro args s m h hn
    obtain ⟨m9, meth, c, hn9, h1, h2, h3, h4, -, h5, h6, -⟩ := Cond.codeWith_spec (atoms_spec (ws := ws) h _ (by rw [hw]; exact List.mem_cons_self))
    cases hn.symm.trans hn9
    exact ⟨meth, c, h1, h2, h3, h4, h5, h6⟩
  · intro p e s m args below meth c s₁ B hml hP _
    have hh0 : s₁.heap = s.heap := by rw [B.state]; rfl
    obtain ⟨t, a1, o, b1, b2, b3⟩ := body p e s m args below meth c s₁ B hml hP s₁ hh0 (Stand.of_body B)
    exact ⟨t, o, a1, b1, b2, b3⟩
/-! ===== END ===== -/
end
section
/-! EV: an evaluator of bytecode over a list of cells (EC: what kind, its slots), and its soundness over the machine.
An action (EA) is what one instruction does: it is given how methods are called, what comes behind it, the frame and the cells. -/
abbrev EC : Type := (Nat ⊕ Nat) × List Value
abbrev EH : Type := List EC × Nat × Nat
abbrev EF : Type := Nat × List (Nat × Value) × List Value
abbrev ER : Type := Option ((Option Value ⊕ String) × EH)
abbrev EK : Type := EF → EH → ER
abbrev ECall : Type := Nat → List Value → EH → ER
abbrev EA : Type := ECall → EK → EF → EH → ER
/-- the texts that a throw names; pairs of classes of which the first is none of the second -/
abbrev EQ : Type := List (String × Nat × String) × List (String × String)
/-- what a value of the evaluator is on the machine: cells by their places (al: their addresses), outer cells by numbers (ox) -/
def ev_rv (ox : Nat → Nat) (al : List Nat) : Value → Value
  | .ref a => .ref (al.getD a 0)
  | .float k => .ref (ox k.toNat)
  | v => v
/-- a value that speaks of n cells at most -/
def ev_ok (n : Nat) : Value → Prop
  | .ref a => a < n
  | _ => True
def ev_i : Value → Int32
  | .int x => x
  | _ => 0
def ev_l : Value → Int64
  | .long x => x
  | _ => 0
def ev_arr (t : Nat) (vs : List Value) : vp_A :=
  (vs.length, if t = 2 then .inr (.inl (fun j => ev_l (vs.getD j (.long 0)))) else .inl (fun j => ev_i (vs.getD j (.int 0))))
def ev_e (cs : Nat → ClassId) (ox : Nat → Nat) (al : List Nat) (e : EC) : va_E := match e.1 with
  | .inl t => .inl (cs t, ev_arr t e.2)
  | .inr c => .inr (c, e.2.map (ev_rv ox al))
def ev_w (cs : Nat → ClassId) (ox : Nat → Nat) (al : List Nat) (h : List EC) : va_W := (al.zip h).map (fun q => (q.1, ev_e cs ox al q.2))
/-- the kinds of arrays: 0 int[], 1 boolean[], 2 long[] -/
def ev_ty : Nat → FieldType
  | 0 => .int
  | 1 => .boolean
  | _ => .long
def ev_tys (cs : Nat → ClassId) : List (ClassId × FieldType) := [(cs 0, ev_ty 0), (cs 1, ev_ty 1), (cs 2, ev_ty 2)]
/-- no cell speaks of a place that isn't there -/
def ev_wf (h : List EC) : Prop := ∀ e ∈ h, ∀ v ∈ e.2, ev_ok h.length v
/-- the world: the cells lie at their addresses, apart, within A; nothing outside A has changed since H0 -/
def ev_Wd (D : va_G) (cl : List vw_C) (cs : Nat → ClassId) (ox : Nat → Nat) (A : Nat → Prop) (H0 : Heap) (al0 : List Nat) (al : List Nat) (h : List EC) (H : Heap) (locs : List Loc) : Prop :=
  al0 <+: al ∧ al.length = h.length ∧ va_P D cl (ev_w cs ox al h) H ∧ va_D A (ev_w cs ox al h) ∧ va_S A H0 H locs ∧ ev_wf h
/-- from this frame and these cells the machine comes to Q, within the room up to ck, cn -/
def ev_G (p : Program) (l : Launch) (e : Env) (R : Room) (s : State) (m : MethodId) (args : Array Value) (below : List Frame) (meth : Method) (c : Code) (Q : State → Prop)
    (D : va_G) (cl : List vw_C) (cs : Nat → ClassId) (ox : Nat → Nat) (A : Nat → Prop) (al0 : List Nat) (nL k0 n0 ck cn : Nat) (f : EF) (hs : EH) : Prop :=
  k0 ≤ hs.2.1 → n0 ≤ hs.2.2 → hs.2.1 ≤ ck ∧ hs.2.2 ≤ cn ∧ ∀ (al : List Nat) (H : Heap) (locs : List Loc) (ls : Array Slot), ev_Wd D cl cs ox A s.heap al0 al hs.1 H locs →
    (∀ q ∈ f.2.1, ev_ok hs.1.length q.2) → (∀ v ∈ f.2.2, ev_ok hs.1.length v) → lv_has ls nL (f.2.1.map (fun q => (q.1, ev_rv ox al q.2))) →
    W p l e R s m args below meth c H locs (hs.2.1 - k0) (hs.2.2 - n0) Q (F0 m f.1 ls (f.2.2.map (ev_rv ox al)))
def ev_ret (v : Option Value) (ig : Instr) : Prop := match v with
  | none => ig = .return_
  | some (.int _) => ig = .ireturn
  | some (.long _) => ig = .lreturn
  | some (.double _) => ig = .dreturn
  | some (.ref _) => ig = .areturn
  | _ => False
/-- words that are kept as premises of their own: nest mates' links, what a throw asks beside -/
def ev_nestw : Cond → Bool
  | .fieldLinkNest _ _ _ _ _ _ => true
  | .methodLinkNest _ _ _ _ => true
  | .declares _ => true
  | .castable _ _ => true
  | _ => false
theorem ev_nestw_on {w : Cond} (h : ev_nestw w = true) : w.onTables = true := by
  cases w <;> first | rfl | cases h
/-- what holds of a state whatever its method: the classes' tables, the nest mates' words, what a throw needs, the texts -/
def ev_Sr (D : va_G) (cl : List vw_C) (cs : Nat → ClassId) (Tn : List Cond) (Tq : EQ) (A : Nat → Prop) (U : State) : Prop :=
  va_K D cl (ev_tys cs) U ∧ (∀ q, U.heap.size ≤ q → A q) ∧ (∀ w ∈ Tn, ev_nestw w = true ∧ va_Nw w U) ∧ vx_Zq Bundle.tN "UNASSIGNED_STACK" Bundle.steD A U U.heap ∧ vx_Zq Bundle.tN "SUPPRESSED_SENTINEL" Bundle.listD A U U.heap ∧
    (∀ q ∈ Tq.1, ∃ sa, vk_R q.1 q.2.1 q.2.2 sa U) ∧ ∀ q ∈ Tq.2, va_Nc q.1 q.2 U
/-- what holds of the frame's surroundings -/
def ev_Cx (p : Program) (R : Room) (s : State) (m : MethodId) (args : Array Value) (c : Code) (cc : ByteArray) (nL : Nat) (hh : List (Nat × Nat × Nat × Nat)) (own : String) (Ts Tn : List Cond) (Tq : EQ) (D : va_G) (cl : List vw_C) (cs : Nat → ClassId) (A : Nat → Prop) (k0 n0 ck cn : Nat) : Prop :=
  CallFix p m c cc nL s args Ts own ∧ ev_Sr D cl cs Tn Tq A s ∧ c.exceptionTable.toList.map (fun h => (h.startPc, h.endPc, h.handlerPc, h.catchType)) = hh ∧ ck - k0 ≤ R.cells ∧ cn - n0 ≤ R.slots
/-- what Q asks of a frame that returns -/
def ev_Rt (p : Program) (l : Launch) (e : Env) (R : Room) (s : State) (m : MethodId) (args : Array Value) (below : List Frame) (meth : Method) (c : Code) (Q : State → Prop)
    (cc : ByteArray) (D : va_G) (cl : List vw_C) (cs : Nat → ClassId) (ox : Nat → Nat) (A : Nat → Prop) (al0 : List Nat) (k0 n0 : Nat) (v : Option Value) (hs : EH) : Prop :=
  ∀ (al : List Nat) (H : Heap) (locs : List Loc) (ls : Array Slot) (pc : Nat) (ig : Instr), ev_Wd D cl cs ox A s.heap al0 al hs.1 H locs → (∀ w ∈ v.toList, ev_ok hs.1.length w) → ev_ret v ig → decode cc pc = .ok (ig, 1) → k0 ≤ hs.2.1 → n0 ≤ hs.2.2 →
    W p l e R s m args below meth c H locs (hs.2.1 - k0) (hs.2.2 - n0) Q (F0 m pc ls (v.toList.map (ev_rv ox al)))
/-- what Q asks of a frame that throws E -/
def ev_Th (l : Launch) (s : State) (args : Array Value) (below : List Frame) (meth : Method) (c : Code) (Q : State → Prop)
    (D : va_G) (cl : List vw_C) (cs : Nat → ClassId) (ox : Nat → Nat) (A : Nat → Prop) (al0 : List Nat) (k0 n0 : Nat) (E : String) (hs : EH) : Prop :=
  l.stackTraces = false ∧ meth.locks = false ∧ (∀ x ∈ c.exceptionTable.toList, False) ∧ ∃ (Qc : Array Value → State → Outcome → State → Prop) (XC : String → State → State → Prop),
    Q = vx_MQ below Qc XC args s (hs.2.1 - k0) (hs.2.2 - n0) A ∧ ∀ (al : List Nat) (H : Heap) (locs : List Loc), ev_Wd D cl cs ox A s.heap al0 al hs.1 H locs → ∀ t : State, t.heap = H → s.vm.Alike t.vm → XC E s t
/-- the action a does what the instruction at pc does -/
def ev_Ok (cc : ByteArray) (nL : Nat) (hh : List (Nat × Nat × Nat × Nat)) (own : String) (Ts Tn : List Cond) (Tq : EQ) (cl : List vw_C) (isI : Bool) (CO : Launch → Room → (Nat → ClassId) → va_G → (Nat → Nat) → (Nat → Prop) → ECall → Prop) (pc : Nat) (a : EA) : Prop :=
  ∀ (p : Program) (l : Launch) (e : Env) (R : Room) (s : State) (m : MethodId) (args : Array Value) (below : List Frame) (meth : Method) (c : Code) (Q : State → Prop) (D : va_G) (cs : Nat → ClassId) (ox : Nat → Nat) (A : Nat → Prop) (al0 : List Nat) (k0 n0 : Nat) (call : ECall) (kont : EK) (f : EF) (hs : EH) (o : Option Value ⊕ String) (hs' : EH),
    ev_Cx p R s m args c cc nL hh own Ts Tn Tq D cl cs A k0 n0 hs'.2.1 hs'.2.2 → (isI = true → meth.name = "<init>") → CO l R cs D ox A call →
    (∀ v, o = .inl v → ev_Rt p l e R s m args below meth c Q cc D cl cs ox A al0 k0 n0 v hs') →
    (∀ E, o = .inr E → ev_Th l s args below meth c Q D cl cs ox A al0 k0 n0 E hs') →
    f.1 = pc → a call kont f hs = some (o, hs') →
    (∀ f1 h1, kont f1 h1 = some (o, hs') → ev_G p l e R s m args below meth c Q D cl cs ox A al0 nL k0 n0 hs'.2.1 hs'.2.2 f1 h1) →
    ev_G p l e R s m args below meth c Q D cl cs ox A al0 nL k0 n0 hs'.2.1 hs'.2.2 f hs

theorem ev_allc {α : Type} {P : α → Prop} {x : α} {r : List α} (h1 : P x) (h2 : ∀ v ∈ r, P v) : ∀ v ∈ x :: r, P v := List.forall_mem_cons.mpr ⟨h1, h2⟩
theorem ev_hd {α : Type} {P : α → Prop} {x : α} {r : List α} (h : ∀ v ∈ x :: r, P v) : P x := h x List.mem_cons_self
theorem ev_tl {α : Type} {P : α → Prop} {x : α} {r : List α} (h : ∀ v ∈ x :: r, P v) : ∀ v ∈ r, P v := fun v hv => h v (List.mem_cons_of_mem _ hv)

def a_ii (n : Nat) (g : Int32 → Int32 → Int32) : EA := fun _ k f hs => match f.2.2 with
  | .int y :: .int x :: st => k (f.1 + n, f.2.1, .int (g x y) :: st) hs
  | _ => none
def a_iiN (g : Int32 → Int32 → Int32) : EA := fun _ k f hs => match f.2.2 with
  | .int y :: .int x :: st => if y = 0 then none else k (f.1 + 1, f.2.1, .int (g x y) :: st) hs
  | _ => none
def a_i (g : Int32 → Value) : EA := fun _ k f hs => match f.2.2 with
  | .int x :: st => k (f.1 + 1, f.2.1, g x :: st) hs
  | _ => none
def a_ll (g : Int64 → Int64 → Value) : EA := fun _ k f hs => match f.2.2 with
  | .long y :: .long x :: st => k (f.1 + 1, f.2.1, g x y :: st) hs
  | _ => none
def a_push (n : Nat) (v : Value) : EA := fun _ k f hs => k (f.1 + n, f.2.1, v :: f.2.2) hs
def a_goto (t : Nat) : EA := fun _ k f hs => k (t, f.2.1, f.2.2) hs
def a_if (t : Nat) (b : Int32 → Bool) : EA := fun _ k f hs => match f.2.2 with
  | .int x :: st => bif b x then k (t, f.2.1, st) hs else k (f.1 + 3, f.2.1, st) hs
  | _ => none
def a_ic (t : Nat) (b : Int32 → Int32 → Bool) : EA := fun _ k f hs => match f.2.2 with
  | .int y :: .int x :: st => bif b x y then k (t, f.2.1, st) hs else k (f.1 + 3, f.2.1, st) hs
  | _ => none
def ev_look : List (Nat × Value) → Nat → Option Value
  | [], _ => none
  | q :: r, i => bif Nat.beq q.1 i then some q.2 else ev_look r i
def a_iload (n i : Nat) : EA := fun _ k f hs => match ev_look f.2.1 i with
  | some (.int x) => k (f.1 + n, f.2.1, .int x :: f.2.2) hs
  | _ => none
def a_lload (n i : Nat) : EA := fun _ k f hs => match ev_look f.2.1 i with
  | some (.long x) => k (f.1 + n, f.2.1, .long x :: f.2.2) hs
  | _ => none
def a_dload (n i : Nat) : EA := fun _ k f hs => match ev_look f.2.1 i with
  | some (.double x) => k (f.1 + n, f.2.1, .double x :: f.2.2) hs
  | _ => none
def a_aload (n i : Nat) : EA := fun _ k f hs => match ev_look f.2.1 i with
  | some (.ref x) => k (f.1 + n, f.2.1, .ref x :: f.2.2) hs
  | some (.float x) => k (f.1 + n, f.2.1, .float x :: f.2.2) hs
  | _ => none
def ev_st1 (lo : List (Nat × Value)) (i : Nat) (v : Value) : List (Nat × Value) := (i, v) :: lo.filter (fun q => !(q.1 == i) && !(q.1 + 1 == i && q.2.category == 2))
def ev_st2 (lo : List (Nat × Value)) (i : Nat) (v : Value) : List (Nat × Value) := (i, v) :: lo.filter (fun q => !(q.1 == i) && (!(q.1 == i + 1) && !(q.1 + 1 == i && q.2.category == 2)))
def a_istore (nL n i : Nat) : EA := fun _ k f hs => match f.2.2 with
  | .int x :: st => if i < nL then k (f.1 + n, ev_st1 f.2.1 i (.int x), st) hs else none
  | _ => none
def a_astore (nL n i : Nat) : EA := fun _ k f hs => match f.2.2 with
  | .ref x :: st => if i < nL then k (f.1 + n, ev_st1 f.2.1 i (.ref x), st) hs else none
  | .float x :: st => if i < nL then k (f.1 + n, ev_st1 f.2.1 i (.float x), st) hs else none
  | _ => none
def a_lstore (nL n i : Nat) : EA := fun _ k f hs => match f.2.2 with
  | .long x :: st => if i + 1 < nL then k (f.1 + n, ev_st2 f.2.1 i (.long x), st) hs else none
  | _ => none
def a_dstore (nL n i : Nat) : EA := fun _ k f hs => match f.2.2 with
  | .double x :: st => if i + 1 < nL then k (f.1 + n, ev_st2 f.2.1 i (.double x), st) hs else none
  | _ => none
def a_iinc (nL i : Nat) (d : Int32) : EA := fun _ k f hs => match ev_look f.2.1 i with
  | some (.int x) => if i < nL then k (f.1 + 3, ev_st1 f.2.1 i (.int (x + d)), f.2.2) hs else none
  | _ => none
def a_dup : EA := fun _ k f hs => match f.2.2 with
  | v :: st => if v.category = 1 then k (f.1 + 1, f.2.1, v :: v :: st) hs else none
  | _ => none
def a_pop : EA := fun _ k f hs => match f.2.2 with
  | v :: st => if v.category = 1 then k (f.1 + 1, f.2.1, st) hs else none
  | _ => none
def a_dupx1 : EA := fun _ k f hs => match f.2.2 with
  | v :: u :: st => if v.category = 1 ∧ u.category = 1 then k (f.1 + 1, f.2.1, v :: u :: v :: st) hs else none
  | _ => none
def a_dupx2 : EA := fun _ k f hs => match f.2.2 with
  | v :: u :: t :: st => if v.category = 1 ∧ u.category = 1 ∧ t.category = 1 then k (f.1 + 1, f.2.1, v :: u :: t :: v :: st) hs else none
  | _ => none
def a_dup2 : EA := fun _ k f hs => match f.2.2 with
  | v :: u :: st => if v.category = 1 ∧ u.category = 1 then k (f.1 + 1, f.2.1, v :: u :: v :: u :: st) hs else none
  | _ => none
def a_tsw (lo : Int) (ts : List Nat) (t : Nat) : EA := fun _ k f hs => match f.2.2 with
  | .int x :: st => if x.toInt < lo then k (t, f.2.1, st) hs else match ts[(x.toInt - lo).toNat]? with
    | some t1 => k (t1, f.2.1, st) hs
    | none => k (t, f.2.1, st) hs
  | _ => none
def a_iret : EA := fun _ _ f hs => match f.2.2 with
  | [.int x] => some (.inl (some (.int x)), hs)
  | _ => none
def a_lret : EA := fun _ _ f hs => match f.2.2 with
  | [.long x] => some (.inl (some (.long x)), hs)
  | _ => none
def a_dret : EA := fun _ _ f hs => match f.2.2 with
  | [.double x] => some (.inl (some (.double x)), hs)
  | _ => none
def a_aret : EA := fun _ _ f hs => match f.2.2 with
  | [.ref x] => some (.inl (some (.ref x)), hs)
  | _ => none
def a_vret : EA := fun _ _ f hs => match f.2.2 with
  | [] => some (.inl none, hs)
  | _ => none
/-! the heap's -/
def a_getf (ci kf : Nat) : EA := fun _ k f hs => match f.2.2 with
  | .ref a :: st => match hs.1[a]? with
    | some (.inr c, fs) => bif Nat.beq c ci then (match fs[kf]? with
      | some v => k (f.1 + 3, f.2.1, v :: st) hs
      | none => none) else none
    | _ => none
  | _ => none
def ev_fit (ty : Nat) (v : Value) : Bool := match v with
  | .int x => bif Nat.beq ty 0 then true else bif Nat.beq ty 1 then decide (x = 0) || decide (x = 1) else false
  | .ref _ => Nat.beq ty 9
  | .float _ => Nat.beq ty 9
  | .null => Nat.beq ty 9
  | .long _ => Nat.beq ty 2
  | _ => false
def a_putf (ty ci kf : Nat) : EA := fun _ k f hs => match f.2.2 with
  | v :: .ref a :: st => match hs.1[a]? with
    | some (.inr c, fs) => bif Nat.beq c ci && (ev_fit ty v && decide (kf < fs.length)) then k (f.1 + 3, f.2.1, st) (hs.1.set a (.inr c, fs.set kf v), hs.2) else none
    | _ => none
  | _ => none
def ev_at (vs : List Value) (i : Int32) : Option Value := if i < 0 then none else vs[i.toNatClampNeg]?
def a_ild (t : Nat) : EA := fun _ k f hs => match f.2.2 with
  | .int i :: .ref a :: st => match hs.1[a]? with
    | some (.inl t', vs) => bif Nat.beq t' t then (match ev_at vs i with
      | some (.int x) => k (f.1 + 1, f.2.1, .int x :: st) hs
      | _ => none) else none
    | _ => none
  | _ => none
def a_lld : EA := fun _ k f hs => match f.2.2 with
  | .int i :: .ref a :: st => match hs.1[a]? with
    | some (.inl t', vs) => bif Nat.beq t' 2 then (match ev_at vs i with
      | some (.long x) => k (f.1 + 1, f.2.1, .long x :: st) hs
      | _ => none) else none
    | _ => none
  | _ => none
def a_ist (t : Nat) : EA := fun _ k f hs => match f.2.2 with
  | .int x :: .int i :: .ref a :: st => match hs.1[a]? with
    | some (.inl t', vs) => bif Nat.beq t' t && ev_fit t (.int x) then (match ev_at vs i with
      | some _ => k (f.1 + 1, f.2.1, st) (hs.1.set a (.inl t', vs.set i.toNatClampNeg (.int x)), hs.2)
      | _ => none) else none
    | _ => none
  | _ => none
def a_lst : EA := fun _ k f hs => match f.2.2 with
  | .long x :: .int i :: .ref a :: st => match hs.1[a]? with
    | some (.inl t', vs) => bif Nat.beq t' 2 then (match ev_at vs i with
      | some _ => k (f.1 + 1, f.2.1, st) (hs.1.set a (.inl t', vs.set i.toNatClampNeg (.long x)), hs.2)
      | _ => none) else none
    | _ => none
  | _ => none
def a_alen : EA := fun _ k f hs => match f.2.2 with
  | .ref a :: st => match hs.1[a]? with
    | some (.inl t, vs) => bif Nat.ble t 2 then k (f.1 + 1, f.2.1, .int (Int32.ofNat vs.length) :: st) hs else none
    | _ => none
  | _ => none
def a_new (ci n : Nat) (fs : List Value) : EA := fun _ k f hs => k (f.1 + 3, f.2.1, .ref hs.1.length :: f.2.2) (hs.1 ++ [(.inr ci, fs)], hs.2.1 + 1, hs.2.2 + n)
def ev_dv (t : Nat) : Value := if t = 2 then .long 0 else .int 0
def a_newa (t : Nat) : EA := fun _ k f hs => match f.2.2 with
  | .int n :: st => if n < 0 then none else bif Nat.ble (n.toNatClampNeg * 8) 536870912 then
      k (f.1 + 2, f.2.1, .ref hs.1.length :: st) (hs.1 ++ [(.inl t, List.replicate n.toNatClampNeg (ev_dv t))], hs.2.1 + 1, hs.2.2 + n.toNatClampNeg) else none
  | _ => none
def a_objI : EA := fun _ k f hs => match f.2.2 with
  | .ref _ :: st => bif Nat.ble (st.map fun v => v.category).sum 8 then k (f.1 + 3, f.2.1, st) hs else none
  | _ => none


theorem ev_rv_cat (ox : Nat → Nat) (al : List Nat) (v : Value) : (ev_rv ox al v).category = v.category := by cases v <;> rfl
theorem ev_look_mem : ∀ (lo : List (Nat × Value)) (i : Nat) (v : Value), ev_look lo i = some v → (i, v) ∈ lo
  | [], _, _, h => by cases h
  | q :: r, i, v, h => by
    unfold ev_look at h
    cases hq : Nat.beq q.1 i with
    | true =>
      rw [hq] at h
      have h1 : q.2 = v := Option.some.inj h
      have h2 : q.1 = i := Nat.eq_of_beq_eq_true hq
      rw [← h1, ← h2]
      exact List.mem_cons_self
    | false =>
      rw [hq] at h
      exact List.mem_cons_of_mem _ (ev_look_mem r i v h)
theorem ev_local {ox : Nat → Nat} {al : List Nat} {ls : Array Slot} {nL : Nat} {lo : List (Nat × Value)} (hl : lv_has ls nL (lo.map (fun q => (q.1, ev_rv ox al q.2)))) {i : Nat} {v : Value} (h : ev_look lo i = some v) : ls[i]? = some (.val (ev_rv ox al v)) :=
  hl.2.2 (i, ev_rv ox al v) (List.mem_map.mpr ⟨(i, v), ev_look_mem lo i v h, rfl⟩)
theorem ev_filt (ox : Nat → Nat) (al : List Nat) (i : Nat) (lo : List (Nat × Value)) : (lo.map (fun q => (q.1, ev_rv ox al q.2))).filter (fun q => !(q.1 == i) && !(q.1 + 1 == i && q.2.category == 2)) = (lo.filter (fun q => !(q.1 == i) && !(q.1 + 1 == i && q.2.category == 2))).map (fun q => (q.1, ev_rv ox al q.2)) := by
  rw [List.filter_map]
  congr 1
  apply List.filter_congr
  intro q _
  simp only [Function.comp_apply, ev_rv_cat]
theorem ev_filt2 (ox : Nat → Nat) (al : List Nat) (i : Nat) (lo : List (Nat × Value)) : (lo.map (fun q => (q.1, ev_rv ox al q.2))).filter (fun q => !(q.1 == i) && (!(q.1 == i + 1) && !(q.1 + 1 == i && q.2.category == 2))) = (lo.filter (fun q => !(q.1 == i) && (!(q.1 == i + 1) && !(q.1 + 1 == i && q.2.category == 2)))).map (fun q => (q.1, ev_rv ox al q.2)) := by
  rw [List.filter_map]
  congr 1
  apply List.filter_congr
  intro q _
  simp only [Function.comp_apply, ev_rv_cat]
theorem ev_st1_eq (ox : Nat → Nat) (al : List Nat) (i : Nat) (lo : List (Nat × Value)) (v : Value) : (i, ev_rv ox al v) :: (lo.map (fun q => (q.1, ev_rv ox al q.2))).filter (fun q => !(q.1 == i) && !(q.1 + 1 == i && q.2.category == 2)) = (ev_st1 lo i v).map (fun q => (q.1, ev_rv ox al q.2)) := by
  rw [ev_filt]; rfl
theorem ev_st2_eq (ox : Nat → Nat) (al : List Nat) (i : Nat) (lo : List (Nat × Value)) (v : Value) : (i, ev_rv ox al v) :: (lo.map (fun q => (q.1, ev_rv ox al q.2))).filter (fun q => !(q.1 == i) && (!(q.1 == i + 1) && !(q.1 + 1 == i && q.2.category == 2))) = (ev_st2 lo i v).map (fun q => (q.1, ev_rv ox al q.2)) := by
  rw [ev_filt2]; rfl
theorem ev_st1_ok {n : Nat} {lo : List (Nat × Value)} {i : Nat} {v : Value} (h : ∀ q ∈ lo, ev_ok n q.2) (hv : ev_ok n v) : ∀ q ∈ ev_st1 lo i v, ev_ok n q.2 := ev_allc (P := fun q : Nat × Value => ev_ok n q.2) hv (fun q hq => h q (List.mem_filter.mp hq).1)
theorem ev_st2_ok {n : Nat} {lo : List (Nat × Value)} {i : Nat} {v : Value} (h : ∀ q ∈ lo, ev_ok n q.2) (hv : ev_ok n v) : ∀ q ∈ ev_st2 lo i v, ev_ok n q.2 := ev_allc (P := fun q : Nat × Value => ev_ok n q.2) hv (fun q hq => h q (List.mem_filter.mp hq).1)
theorem ev_look_ok {n : Nat} {lo : List (Nat × Value)} {i : Nat} {v : Value} (h : ∀ q ∈ lo, ev_ok n q.2) (hv : ev_look lo i = some v) : ev_ok n v := h (i, v) (ev_look_mem lo i v hv)
theorem ev_ok_mono {n k : Nat} (h : n ≤ k) {v : Value} (hv : ev_ok n v) : ev_ok k v := by
  cases v <;> first | trivial | exact Nat.lt_of_lt_of_le hv h
theorem ev_rv_app (ox : Nat → Nat) (al be : List Nat) {v : Value} (h : ev_ok al.length v) : ev_rv ox (al ++ be) v = ev_rv ox al v := by
  cases v with
  | ref a =>
    show Value.ref _ = Value.ref _
    rw [List.getD_eq_getElem?_getD, List.getD_eq_getElem?_getD, List.getElem?_append_left h]
  | _ => rfl
theorem ev_w_len {cs : Nat → ClassId} {ox : Nat → Nat} {al : List Nat} {h : List EC} (hn : al.length = h.length) : (ev_w cs ox al h).length = h.length := by
  unfold ev_w
  rw [List.length_map, List.length_zip, hn, Nat.min_self]
theorem ev_w_get {cs : Nat → ClassId} {ox : Nat → Nat} {al : List Nat} {h : List EC} (hn : al.length = h.length) {a : Nat} {e : EC} (he : h[a]? = some e) : (ev_w cs ox al h)[a]? = some (al.getD a 0, ev_e cs ox al e) := by
  have ha : a < al.length := by rw [hn]; exact (List.getElem?_eq_some_iff.mp he).1
  unfold ev_w
  rw [List.getElem?_map, (List.getElem?_zip_eq_some (z := (al[a], e))).mpr ⟨List.getElem?_eq_getElem ha, he⟩, List.getD_eq_getElem?_getD, List.getElem?_eq_getElem ha]
  rfl
theorem ev_w_ge {cs : Nat → ClassId} {ox : Nat → Nat} {al : List Nat} {h : List EC} {a : Nat} {q : Nat × va_E} (hq : (ev_w cs ox al h)[a]? = some q) : ∃ e, h[a]? = some e ∧ al[a]? = some q.1 ∧ q.2 = ev_e cs ox al e := by
  unfold ev_w at hq
  rw [List.getElem?_map] at hq
  cases hz : (al.zip h)[a]? with
  | none => rw [hz] at hq; cases hq
  | some z =>
    rw [hz] at hq
    obtain ⟨z1, z2⟩ := List.getElem?_zip_eq_some.mp hz
    cases hq
    exact ⟨z.2, z2, z1, rfl⟩
theorem ev_w_set {cs : Nat → ClassId} {ox : Nat → Nat} {al : List Nat} {h : List EC} (hn : al.length = h.length) (a : Nat) (e' : EC) : (ev_w cs ox al h).set a (al.getD a 0, ev_e cs ox al e') = ev_w cs ox al (h.set a e') := by
  apply List.ext_getElem?
  intro j
  rw [List.getElem?_set]
  by_cases hj : a = j
  · subst hj
    rw [if_pos rfl, ev_w_len hn]
    by_cases hl : a < h.length
    · rw [if_pos hl]
      exact (ev_w_get (cs := cs) (ox := ox) (al := al) (h := h.set a e') (by rw [List.length_set]; exact hn) (by rw [List.getElem?_set_self hl])).symm
    · rw [if_neg hl]
      refine (List.getElem?_eq_none ?_).symm
      rw [ev_w_len (by rw [List.length_set]; exact hn), List.length_set]
      omega
  · rw [if_neg hj]
    unfold ev_w
    rw [List.getElem?_map, List.getElem?_map]
    congr 1
    rw [List.zip, List.getElem?_zipWith, List.getElem?_zipWith, List.getElem?_set_ne hj]
theorem ev_e_app {cs : Nat → ClassId} {ox : Nat → Nat} {al : List Nat} (be : List Nat) {e : EC} (h : ∀ v ∈ e.2, ev_ok al.length v) : ev_e cs ox (al ++ be) e = ev_e cs ox al e := by
  unfold ev_e
  split
  · rfl
  · next c _ =>
    have : e.2.map (ev_rv ox (al ++ be)) = e.2.map (ev_rv ox al) := List.map_congr_left (fun v hv => ev_rv_app ox al be (h v hv))
    rw [this]
theorem ev_w_push {cs : Nat → ClassId} {ox : Nat → Nat} {al : List Nat} {h : List EC} (hn : al.length = h.length) (hw : ∀ e ∈ h, ∀ v ∈ e.2, ev_ok h.length v) (q : Nat) {e : EC} (he : ∀ v ∈ e.2, ev_ok al.length v) : ev_w cs ox al h ++ [(q, ev_e cs ox al e)] = ev_w cs ox (al ++ [q]) (h ++ [e]) := by
  unfold ev_w
  rw [List.zip_append hn, List.map_append]
  congr 1
  · apply List.map_congr_left
    intro z hz
    have h1 : z.2 ∈ h := (List.of_mem_zip hz).2
    show (z.1, _) = (z.1, _)
    rw [ev_e_app [q] (fun v hv => by rw [hn]; exact hw _ h1 v hv)]
  · show [(q, _)] = [(q, _)]
    rw [ev_e_app [q] he]
theorem ev_wf_set {h : List EC} (hw : ∀ e ∈ h, ∀ v ∈ e.2, ev_ok h.length v) {a : Nat} {e' : EC} (he : ∀ v ∈ e'.2, ev_ok h.length v) : ∀ e ∈ h.set a e', ∀ v ∈ e.2, ev_ok (h.set a e').length v := by
  intro e h1 v hv
  rw [List.length_set]
  rcases List.mem_or_eq_of_mem_set h1 with h1 | h1
  · exact hw e h1 v hv
  · subst h1; exact he v hv
theorem ev_mem_set {P : Value → Prop} {vs : List Value} {i : Nat} {x : Value} (h : ∀ v ∈ vs, P v) (hx : P x) : ∀ v ∈ vs.set i x, P v := by
  intro v hv
  rcases List.mem_or_eq_of_mem_set hv with h1 | h1
  · exact h v h1
  · subst h1; exact hx
theorem ev_at_spec {vs : List Value} {i : Int32} {v : Value} (h : ev_at vs i = some v) : vp_in i vs.length ∧ vs[i.toNatClampNeg]? = some v := by
  unfold ev_at at h
  by_cases hi : i < 0
  · rw [if_pos hi] at h; cases h
  · rw [if_neg hi] at h
    have hl := (List.getElem?_eq_some_iff.mp h).1
    exact ⟨fun q => by rcases q with q | q; exact hi q; omega, h⟩
theorem ev_upd (vs : List Value) (n : Nat) (x : Int32) (hn : n < vs.length) : upd (fun j => ev_i (vs.getD j (.int 0))) n x = fun j => ev_i ((vs.set n (.int x)).getD j (.int 0)) := by
  funext j
  show (if j = n then x else ev_i (vs.getD j (.int 0))) = _
  rw [List.getD_eq_getElem?_getD, List.getD_eq_getElem?_getD, List.getElem?_set]
  by_cases hj : n = j
  · subst hj
    simp [hn, ev_i]
  · rw [if_neg hj, if_neg (fun h => hj h.symm)]
theorem ev_updL (vs : List Value) (n : Nat) (x : Int64) (hn : n < vs.length) : vp_updL (fun j => ev_l (vs.getD j (.long 0))) n x = fun j => ev_l ((vs.set n (.long x)).getD j (.long 0)) := by
  funext j
  show (if j = n then x else ev_l (vs.getD j (.long 0))) = _
  rw [List.getD_eq_getElem?_getD, List.getD_eq_getElem?_getD, List.getElem?_set]
  by_cases hj : n = j
  · subst hj
    simp [hn, ev_l]
  · rw [if_neg hj, if_neg (fun h => hj h.symm)]

def ev_tc : FieldType → Nat
  | .int => 0
  | .boolean => 1
  | .long => 2
  | .object _ => 9
  | .array _ => 9
  | _ => 5
theorem ev_fit_spec (ox : Nat → Nat) (al : List Nat) (ty : FieldType) {v : Value} (h : ev_fit (ev_tc ty) v = true) : narrow ty (ev_rv ox al v) = ev_rv ox al v ∧ fits ty (ev_rv ox al v) = true := by
  cases ty with
  | boolean =>
    cases v with
    | int x =>
      have h2 : (decide (x = 0) || decide (x = 1)) = true := h
      rcases Bool.or_eq_true_iff.mp h2 with q | q
      · cases of_decide_eq_true q; exact ⟨rfl, rfl⟩
      · cases of_decide_eq_true q; exact ⟨rfl, rfl⟩
    | _ => cases h
  | _ => cases v <;> first | exact ⟨rfl, rfl⟩ | cases h
theorem ev_nar {x : Int32} (h : ev_fit 1 (.int x) = true) : vp_nar .boolean x = x := by
  have h2 : (decide (x = 0) || decide (x = 1)) = true := h
  rcases Bool.or_eq_true_iff.mp h2 with q | q
  · cases of_decide_eq_true q; rfl
  · cases of_decide_eq_true q; rfl
theorem ev_wf_push {h : List EC} (hw : ∀ e ∈ h, ∀ v ∈ e.2, ev_ok h.length v) {e' : EC} (he : ∀ v ∈ e'.2, ev_ok h.length v) : ∀ e ∈ h ++ [e'], ∀ v ∈ e.2, ev_ok (h ++ [e']).length v := by
  intro e h1 v hv
  have hm : h.length ≤ (h ++ [e']).length := by rw [List.length_append]; exact Nat.le_add_right _ _
  rcases List.mem_append.mp h1 with h1 | h1
  · exact ev_ok_mono hm (hw e h1 v hv)
  · rw [List.mem_singleton.mp h1] at hv
    exact ev_ok_mono hm (he v hv)
theorem ev_loc_app {ox : Nat → Nat} {al : List Nat} {n : Nat} (hn : al.length = n) {lo : List (Nat × Value)} (h : ∀ q ∈ lo, ev_ok n q.2) {be : List Nat} : lo.map (fun q : Nat × Value => (q.1, ev_rv ox (al ++ be) q.2)) = lo.map (fun q : Nat × Value => (q.1, ev_rv ox al q.2)) :=
  List.map_congr_left (fun q hq => by rw [ev_rv_app ox al be (by rw [hn]; exact h q hq)])
theorem ev_stk_app {ox : Nat → Nat} {al : List Nat} {n : Nat} (hn : al.length = n) {st : List Value} (h : ∀ v ∈ st, ev_ok n v) {be : List Nat} : st.map (ev_rv ox (al ++ be)) = st.map (ev_rv ox al) :=
  List.map_congr_left (fun v hv => ev_rv_app ox al be (by rw [hn]; exact h v hv))
theorem ev_rv_new (ox : Nat → Nat) {al : List Nat} {n : Nat} (hn : al.length = n) (q : Nat) : ev_rv ox (al ++ [q]) (.ref n) = .ref q := by
  show Value.ref _ = _
  rw [List.getD_eq_getElem?_getD, ← hn, List.getElem?_append_right (Nat.le_refl _), Nat.sub_self]
  rfl
theorem ev_arr_new (t n : Nat) (cA : ClassId) : vp_cell cA (ev_arr t (List.replicate n (ev_dv t))) = arrV cA n (fun _ => if t = 2 then .long 0 else .int 0) := by
  unfold ev_arr ev_dv
  by_cases ht : t = 2
  · simp only [if_pos ht, List.length_replicate]
    show arrV cA n (fun j => .long (ev_l ((List.replicate n (Value.long 0)).getD j (.long 0)))) = _
    congr 1
    funext j
    rw [List.getD_eq_getElem?_getD, List.getElem?_replicate]
    split <;> rfl
  · simp only [if_neg ht, List.length_replicate]
    show arrV cA n (fun j => .int (ev_i ((List.replicate n (Value.int 0)).getD j (.int 0)))) = _
    congr 1
    funext j
    rw [List.getD_eq_getElem?_getD, List.getElem?_replicate]
    split <;> rfl
theorem ev_cats (ox : Nat → Nat) (al : List Nat) (st : List Value) : ((st.map (ev_rv ox al)).map fun v => v.category).sum = (st.map fun v => v.category).sum := by
  rw [List.map_map]
  congr 1
  exact List.map_congr_left (fun v _ => ev_rv_cat ox al v)

section EVO
variable {cc : ByteArray} {nL : Nat} {hh : List (Nat × Nat × Nat × Nat)} {own : String} {Ts Tn : List Cond} {Tq : EQ} {cl : List vw_C} {isI : Bool} {CO : Launch → Room → (Nat → ClassId) → va_G → (Nat → Nat) → (Nat → Prop) → ECall → Prop} {pc : Nat}
theorem ok_iadd (d : decode cc pc = .ok (.iadd, 1)) : ev_Ok cc nL hh own Ts Tn Tq cl isI CO pc (a_ii 1 (fun x y => x + y)) := by
  intro p l e R s m args below meth c Q D cs ox A al0 k0 n0 call kont f hs o hs' cx hI hC hR hT hpc h hk
  obtain ⟨pc', lo, st⟩ := f
  cases hpc
  obtain ⟨⟨hx, hb, hml, hown, hts⟩, ⟨hKK, hA, hNw, hZU, hZS, hTq, hNc⟩, hEx, hRc, hRs⟩ := cx
  match st, h with
  | .int y :: .int x :: st, h =>
    intro h1 h2
    obtain ⟨g1, g2, g3⟩ := hk _ _ h h1 h2
    refine ⟨g1, g2, fun al H locs ls w wl wv hl => ?_⟩
    exact lv_iadd hx hb d (g3 al H locs ls w wl (ev_allc trivial (ev_tl (ev_tl wv))) hl)
theorem ok_isub (d : decode cc pc = .ok (.isub, 1)) : ev_Ok cc nL hh own Ts Tn Tq cl isI CO pc (a_ii 1 (fun x y => x - y)) := by
  intro p l e R s m args below meth c Q D cs ox A al0 k0 n0 call kont f hs o hs' cx hI hC hR hT hpc h hk
  obtain ⟨pc', lo, st⟩ := f
  cases hpc
  obtain ⟨⟨hx, hb, hml, hown, hts⟩, ⟨hKK, hA, hNw, hZU, hZS, hTq, hNc⟩, hEx, hRc, hRs⟩ := cx
  match st, h with
  | .int y :: .int x :: st, h =>
    intro h1 h2
    obtain ⟨g1, g2, g3⟩ := hk _ _ h h1 h2
    refine ⟨g1, g2, fun al H locs ls w wl wv hl => ?_⟩
    exact lv_isub hx hb d (g3 al H locs ls w wl (ev_allc trivial (ev_tl (ev_tl wv))) hl)
theorem ok_imul (d : decode cc pc = .ok (.imul, 1)) : ev_Ok cc nL hh own Ts Tn Tq cl isI CO pc (a_ii 1 (fun x y => x * y)) := by
  intro p l e R s m args below meth c Q D cs ox A al0 k0 n0 call kont f hs o hs' cx hI hC hR hT hpc h hk
  obtain ⟨pc', lo, st⟩ := f
  cases hpc
  obtain ⟨⟨hx, hb, hml, hown, hts⟩, ⟨hKK, hA, hNw, hZU, hZS, hTq, hNc⟩, hEx, hRc, hRs⟩ := cx
  match st, h with
  | .int y :: .int x :: st, h =>
    intro h1 h2
    obtain ⟨g1, g2, g3⟩ := hk _ _ h h1 h2
    refine ⟨g1, g2, fun al H locs ls w wl wv hl => ?_⟩
    exact lv_imul hx hb d (g3 al H locs ls w wl (ev_allc trivial (ev_tl (ev_tl wv))) hl)
theorem ok_iand (d : decode cc pc = .ok (.iand, 1)) : ev_Ok cc nL hh own Ts Tn Tq cl isI CO pc (a_ii 1 (fun x y => x &&& y)) := by
  intro p l e R s m args below meth c Q D cs ox A al0 k0 n0 call kont f hs o hs' cx hI hC hR hT hpc h hk
  obtain ⟨pc', lo, st⟩ := f
  cases hpc
  obtain ⟨⟨hx, hb, hml, hown, hts⟩, ⟨hKK, hA, hNw, hZU, hZS, hTq, hNc⟩, hEx, hRc, hRs⟩ := cx
  match st, h with
  | .int y :: .int x :: st, h =>
    intro h1 h2
    obtain ⟨g1, g2, g3⟩ := hk _ _ h h1 h2
    refine ⟨g1, g2, fun al H locs ls w wl wv hl => ?_⟩
    exact lv_iand hx hb d (g3 al H locs ls w wl (ev_allc trivial (ev_tl (ev_tl wv))) hl)
theorem ok_ior (d : decode cc pc = .ok (.ior, 1)) : ev_Ok cc nL hh own Ts Tn Tq cl isI CO pc (a_ii 1 (fun x y => x ||| y)) := by
  intro p l e R s m args below meth c Q D cs ox A al0 k0 n0 call kont f hs o hs' cx hI hC hR hT hpc h hk
  obtain ⟨pc', lo, st⟩ := f
  cases hpc
  obtain ⟨⟨hx, hb, hml, hown, hts⟩, ⟨hKK, hA, hNw, hZU, hZS, hTq, hNc⟩, hEx, hRc, hRs⟩ := cx
  match st, h with
  | .int y :: .int x :: st, h =>
    intro h1 h2
    obtain ⟨g1, g2, g3⟩ := hk _ _ h h1 h2
    refine ⟨g1, g2, fun al H locs ls w wl wv hl => ?_⟩
    exact lv_ior hx hb d (g3 al H locs ls w wl (ev_allc trivial (ev_tl (ev_tl wv))) hl)
theorem ok_ixor (d : decode cc pc = .ok (.ixor, 1)) : ev_Ok cc nL hh own Ts Tn Tq cl isI CO pc (a_ii 1 (fun x y => x ^^^ y)) := by
  intro p l e R s m args below meth c Q D cs ox A al0 k0 n0 call kont f hs o hs' cx hI hC hR hT hpc h hk
  obtain ⟨pc', lo, st⟩ := f
  cases hpc
  obtain ⟨⟨hx, hb, hml, hown, hts⟩, ⟨hKK, hA, hNw, hZU, hZS, hTq, hNc⟩, hEx, hRc, hRs⟩ := cx
  match st, h with
  | .int y :: .int x :: st, h =>
    intro h1 h2
    obtain ⟨g1, g2, g3⟩ := hk _ _ h h1 h2
    refine ⟨g1, g2, fun al H locs ls w wl wv hl => ?_⟩
    exact lv_ixor hx hb d (g3 al H locs ls w wl (ev_allc trivial (ev_tl (ev_tl wv))) hl)
theorem ok_ishl (d : decode cc pc = .ok (.ishl, 1)) : ev_Ok cc nL hh own Ts Tn Tq cl isI CO pc (a_ii 1 (fun x y => x <<< (y &&& 31))) := by
  intro p l e R s m args below meth c Q D cs ox A al0 k0 n0 call kont f hs o hs' cx hI hC hR hT hpc h hk
  obtain ⟨pc', lo, st⟩ := f
  cases hpc
  obtain ⟨⟨hx, hb, hml, hown, hts⟩, ⟨hKK, hA, hNw, hZU, hZS, hTq, hNc⟩, hEx, hRc, hRs⟩ := cx
  match st, h with
  | .int y :: .int x :: st, h =>
    intro h1 h2
    obtain ⟨g1, g2, g3⟩ := hk _ _ h h1 h2
    refine ⟨g1, g2, fun al H locs ls w wl wv hl => ?_⟩
    exact lv_ishl hx hb d (g3 al H locs ls w wl (ev_allc trivial (ev_tl (ev_tl wv))) hl)
theorem ok_ishr (d : decode cc pc = .ok (.ishr, 1)) : ev_Ok cc nL hh own Ts Tn Tq cl isI CO pc (a_ii 1 (fun x y => x >>> (y &&& 31))) := by
  intro p l e R s m args below meth c Q D cs ox A al0 k0 n0 call kont f hs o hs' cx hI hC hR hT hpc h hk
  obtain ⟨pc', lo, st⟩ := f
  cases hpc
  obtain ⟨⟨hx, hb, hml, hown, hts⟩, ⟨hKK, hA, hNw, hZU, hZS, hTq, hNc⟩, hEx, hRc, hRs⟩ := cx
  match st, h with
  | .int y :: .int x :: st, h =>
    intro h1 h2
    obtain ⟨g1, g2, g3⟩ := hk _ _ h h1 h2
    refine ⟨g1, g2, fun al H locs ls w wl wv hl => ?_⟩
    exact lv_ishr hx hb d (g3 al H locs ls w wl (ev_allc trivial (ev_tl (ev_tl wv))) hl)
theorem ok_iushr (d : decode cc pc = .ok (.iushr, 1)) : ev_Ok cc nL hh own Ts Tn Tq cl isI CO pc (a_ii 1 (fun x y => (x.toUInt32 >>> (y.toUInt32 &&& Int32.toUInt32 31)).toInt32)) := by
  intro p l e R s m args below meth c Q D cs ox A al0 k0 n0 call kont f hs o hs' cx hI hC hR hT hpc h hk
  obtain ⟨pc', lo, st⟩ := f
  cases hpc
  obtain ⟨⟨hx, hb, hml, hown, hts⟩, ⟨hKK, hA, hNw, hZU, hZS, hTq, hNc⟩, hEx, hRc, hRs⟩ := cx
  match st, h with
  | .int y :: .int x :: st, h =>
    intro h1 h2
    obtain ⟨g1, g2, g3⟩ := hk _ _ h h1 h2
    refine ⟨g1, g2, fun al H locs ls w wl wv hl => ?_⟩
    exact lv_iushr hx hb d rfl (g3 al H locs ls w wl (ev_allc trivial (ev_tl (ev_tl wv))) hl)
theorem ok_idiv (d : decode cc pc = .ok (.idiv, 1)) : ev_Ok cc nL hh own Ts Tn Tq cl isI CO pc (a_iiN (fun x y => x / y)) := by
  intro p l e R s m args below meth c Q D cs ox A al0 k0 n0 call kont f hs o hs' cx hI hC hR hT hpc h hk
  obtain ⟨pc', lo, st⟩ := f
  cases hpc
  obtain ⟨⟨hx, hb, hml, hown, hts⟩, ⟨hKK, hA, hNw, hZU, hZS, hTq, hNc⟩, hEx, hRc, hRs⟩ := cx
  match st, h with
  | .int y :: .int x :: st, h =>
    by_cases hy : y = 0
    · have h : (if y = 0 then none else kont (pc' + 1, lo, .int (x / y) :: st) hs) = some (o, hs') := h
      rw [if_pos hy] at h; cases h
    · have h : (if y = 0 then none else kont (pc' + 1, lo, .int (x / y) :: st) hs) = some (o, hs') := h
      rw [if_neg hy] at h
      intro h1 h2
      obtain ⟨g1, g2, g3⟩ := hk _ _ h h1 h2
      refine ⟨g1, g2, fun al H locs ls w wl wv hl => ?_⟩
      exact lv_idiv hx hb d hy (g3 al H locs ls w wl (ev_allc trivial (ev_tl (ev_tl wv))) hl)
theorem ok_irem (d : decode cc pc = .ok (.irem, 1)) : ev_Ok cc nL hh own Ts Tn Tq cl isI CO pc (a_iiN (fun x y => x - x / y * y)) := by
  intro p l e R s m args below meth c Q D cs ox A al0 k0 n0 call kont f hs o hs' cx hI hC hR hT hpc h hk
  obtain ⟨pc', lo, st⟩ := f
  cases hpc
  obtain ⟨⟨hx, hb, hml, hown, hts⟩, ⟨hKK, hA, hNw, hZU, hZS, hTq, hNc⟩, hEx, hRc, hRs⟩ := cx
  match st, h with
  | .int y :: .int x :: st, h =>
    by_cases hy : y = 0
    · have h : (if y = 0 then none else kont (pc' + 1, lo, .int (x - x / y * y) :: st) hs) = some (o, hs') := h
      rw [if_pos hy] at h; cases h
    · have h : (if y = 0 then none else kont (pc' + 1, lo, .int (x - x / y * y) :: st) hs) = some (o, hs') := h
      rw [if_neg hy] at h
      intro h1 h2
      obtain ⟨g1, g2, g3⟩ := hk _ _ h h1 h2
      refine ⟨g1, g2, fun al H locs ls w wl wv hl => ?_⟩
      exact lv_irem hx hb d hy (g3 al H locs ls w wl (ev_allc trivial (ev_tl (ev_tl wv))) hl)
theorem ok_ineg (d : decode cc pc = .ok (.ineg, 1)) : ev_Ok cc nL hh own Ts Tn Tq cl isI CO pc (a_i (fun x => .int (-x))) := by
  intro p l e R s m args below meth c Q D cs ox A al0 k0 n0 call kont f hs o hs' cx hI hC hR hT hpc h hk
  obtain ⟨pc', lo, st⟩ := f
  cases hpc
  obtain ⟨⟨hx, hb, hml, hown, hts⟩, ⟨hKK, hA, hNw, hZU, hZS, hTq, hNc⟩, hEx, hRc, hRs⟩ := cx
  match st, h with
  | .int x :: st, h =>
    intro h1 h2
    obtain ⟨g1, g2, g3⟩ := hk _ _ h h1 h2
    refine ⟨g1, g2, fun al H locs ls w wl wv hl => ?_⟩
    exact lv_ineg hx hb d (g3 al H locs ls w wl (ev_allc trivial (ev_tl wv)) hl)
theorem ok_i2l (d : decode cc pc = .ok (.i2l, 1)) : ev_Ok cc nL hh own Ts Tn Tq cl isI CO pc (a_i (fun x => .long x.toInt64)) := by
  intro p l e R s m args below meth c Q D cs ox A al0 k0 n0 call kont f hs o hs' cx hI hC hR hT hpc h hk
  obtain ⟨pc', lo, st⟩ := f
  cases hpc
  obtain ⟨⟨hx, hb, hml, hown, hts⟩, ⟨hKK, hA, hNw, hZU, hZS, hTq, hNc⟩, hEx, hRc, hRs⟩ := cx
  match st, h with
  | .int x :: st, h =>
    intro h1 h2
    obtain ⟨g1, g2, g3⟩ := hk _ _ h h1 h2
    refine ⟨g1, g2, fun al H locs ls w wl wv hl => ?_⟩
    exact lv_i2l hx hb d rfl (g3 al H locs ls w wl (ev_allc trivial (ev_tl wv)) hl)
theorem ok_i2d (d : decode cc pc = .ok (.i2d, 1)) : ev_Ok cc nL hh own Ts Tn Tq cl isI CO pc (a_i (fun x => .double (FP.i2d x))) := by
  intro p l e R s m args below meth c Q D cs ox A al0 k0 n0 call kont f hs o hs' cx hI hC hR hT hpc h hk
  obtain ⟨pc', lo, st⟩ := f
  cases hpc
  obtain ⟨⟨hx, hb, hml, hown, hts⟩, ⟨hKK, hA, hNw, hZU, hZS, hTq, hNc⟩, hEx, hRc, hRs⟩ := cx
  match st, h with
  | .int x :: st, h =>
    intro h1 h2
    obtain ⟨g1, g2, g3⟩ := hk _ _ h h1 h2
    refine ⟨g1, g2, fun al H locs ls w wl wv hl => ?_⟩
    exact lv_i2d hx hb d (g3 al H locs ls w wl (ev_allc trivial (ev_tl wv)) hl)
theorem ok_ladd (d : decode cc pc = .ok (.ladd, 1)) : ev_Ok cc nL hh own Ts Tn Tq cl isI CO pc (a_ll (fun x y => .long (x + y))) := by
  intro p l e R s m args below meth c Q D cs ox A al0 k0 n0 call kont f hs o hs' cx hI hC hR hT hpc h hk
  obtain ⟨pc', lo, st⟩ := f
  cases hpc
  obtain ⟨⟨hx, hb, hml, hown, hts⟩, ⟨hKK, hA, hNw, hZU, hZS, hTq, hNc⟩, hEx, hRc, hRs⟩ := cx
  match st, h with
  | .long y :: .long x :: st, h =>
    intro h1 h2
    obtain ⟨g1, g2, g3⟩ := hk _ _ h h1 h2
    refine ⟨g1, g2, fun al H locs ls w wl wv hl => ?_⟩
    exact lv_ladd hx hb d (g3 al H locs ls w wl (ev_allc trivial (ev_tl (ev_tl wv))) hl)
theorem ok_lmul (d : decode cc pc = .ok (.lmul, 1)) : ev_Ok cc nL hh own Ts Tn Tq cl isI CO pc (a_ll (fun x y => .long (x * y))) := by
  intro p l e R s m args below meth c Q D cs ox A al0 k0 n0 call kont f hs o hs' cx hI hC hR hT hpc h hk
  obtain ⟨pc', lo, st⟩ := f
  cases hpc
  obtain ⟨⟨hx, hb, hml, hown, hts⟩, ⟨hKK, hA, hNw, hZU, hZS, hTq, hNc⟩, hEx, hRc, hRs⟩ := cx
  match st, h with
  | .long y :: .long x :: st, h =>
    intro h1 h2
    obtain ⟨g1, g2, g3⟩ := hk _ _ h h1 h2
    refine ⟨g1, g2, fun al H locs ls w wl wv hl => ?_⟩
    exact lv_lmul hx hb d (g3 al H locs ls w wl (ev_allc trivial (ev_tl (ev_tl wv))) hl)
theorem ok_lcmp (d : decode cc pc = .ok (.lcmp, 1)) : ev_Ok cc nL hh own Ts Tn Tq cl isI CO pc (a_ll (fun x y => .int (lg_cmp x y))) := by
  intro p l e R s m args below meth c Q D cs ox A al0 k0 n0 call kont f hs o hs' cx hI hC hR hT hpc h hk
  obtain ⟨pc', lo, st⟩ := f
  cases hpc
  obtain ⟨⟨hx, hb, hml, hown, hts⟩, ⟨hKK, hA, hNw, hZU, hZS, hTq, hNc⟩, hEx, hRc, hRs⟩ := cx
  match st, h with
  | .long y :: .long x :: st, h =>
    intro h1 h2
    obtain ⟨g1, g2, g3⟩ := hk _ _ h h1 h2
    refine ⟨g1, g2, fun al H locs ls w wl wv hl => ?_⟩
    exact W.lcmp hx hb d (g3 al H locs ls w wl (ev_allc trivial (ev_tl (ev_tl wv))) hl)
theorem ok_iconst {n : Int} {v : Int32} (d : decode cc pc = .ok (.iconst n, 1)) (hv : Int32.ofInt n = v) : ev_Ok cc nL hh own Ts Tn Tq cl isI CO pc (a_push 1 (.int v)) := by
  intro p l e R s m args below meth c Q D cs ox A al0 k0 n0 call kont f hs o hs' cx hI hC hR hT hpc h hk
  obtain ⟨pc', lo, st⟩ := f
  cases hpc
  obtain ⟨⟨hx, hb, hml, hown, hts⟩, ⟨hKK, hA, hNw, hZU, hZS, hTq, hNc⟩, hEx, hRc, hRs⟩ := cx
  intro h1 h2
  obtain ⟨g1, g2, g3⟩ := hk _ _ h h1 h2
  refine ⟨g1, g2, fun al H locs ls w wl wv hl => ?_⟩
  exact lv_iconst hx hb d hv (g3 al H locs ls w wl (ev_allc trivial wv) hl)
theorem ok_bipush {n : Int} {v : Int32} (d : decode cc pc = .ok (.bipush n, 2)) (hv : (Int8.ofInt n).toInt32 = v) : ev_Ok cc nL hh own Ts Tn Tq cl isI CO pc (a_push 2 (.int v)) := by
  intro p l e R s m args below meth c Q D cs ox A al0 k0 n0 call kont f hs o hs' cx hI hC hR hT hpc h hk
  obtain ⟨pc', lo, st⟩ := f
  cases hpc
  obtain ⟨⟨hx, hb, hml, hown, hts⟩, ⟨hKK, hA, hNw, hZU, hZS, hTq, hNc⟩, hEx, hRc, hRs⟩ := cx
  intro h1 h2
  obtain ⟨g1, g2, g3⟩ := hk _ _ h h1 h2
  refine ⟨g1, g2, fun al H locs ls w wl wv hl => ?_⟩
  exact lv_bipush hx hb d hv (g3 al H locs ls w wl (ev_allc trivial wv) hl)
theorem ok_sipush {n : Int} {v : Int32} (d : decode cc pc = .ok (.sipush n, 3)) (hv : (Int16.ofInt n).toInt32 = v) : ev_Ok cc nL hh own Ts Tn Tq cl isI CO pc (a_push 3 (.int v)) := by
  intro p l e R s m args below meth c Q D cs ox A al0 k0 n0 call kont f hs o hs' cx hI hC hR hT hpc h hk
  obtain ⟨pc', lo, st⟩ := f
  cases hpc
  obtain ⟨⟨hx, hb, hml, hown, hts⟩, ⟨hKK, hA, hNw, hZU, hZS, hTq, hNc⟩, hEx, hRc, hRs⟩ := cx
  intro h1 h2
  obtain ⟨g1, g2, g3⟩ := hk _ _ h h1 h2
  refine ⟨g1, g2, fun al H locs ls w wl wv hl => ?_⟩
  exact lv_sipush hx hb d hv (g3 al H locs ls w wl (ev_allc trivial wv) hl)
theorem ok_dconst0 (d : decode cc pc = .ok (.dconst 0, 1)) : ev_Ok cc nL hh own Ts Tn Tq cl isI CO pc (a_push 1 (.double FP.dconst0)) := by
  intro p l e R s m args below meth c Q D cs ox A al0 k0 n0 call kont f hs o hs' cx hI hC hR hT hpc h hk
  obtain ⟨pc', lo, st⟩ := f
  cases hpc
  obtain ⟨⟨hx, hb, hml, hown, hts⟩, ⟨hKK, hA, hNw, hZU, hZS, hTq, hNc⟩, hEx, hRc, hRs⟩ := cx
  intro h1 h2
  obtain ⟨g1, g2, g3⟩ := hk _ _ h h1 h2
  refine ⟨g1, g2, fun al H locs ls w wl wv hl => ?_⟩
  exact lv_dconst0 hx hb d (g3 al H locs ls w wl (ev_allc trivial wv) hl)
theorem ok_ldc {index : Nat} {v : Int32} (d : decode cc pc = .ok (.ldc index, 2)) (hw : Cond.constant own index v ∈ Ts) : ev_Ok cc nL hh own Ts Tn Tq cl isI CO pc (a_push 2 (.int v)) := by
  intro p l e R s m args below meth c Q D cs ox A al0 k0 n0 call kont f hs o hs' cx hI hC hR hT hpc h hk
  obtain ⟨pc', lo, st⟩ := f
  cases hpc
  obtain ⟨⟨hx, hb, hml, hown, hts⟩, ⟨hKK, hA, hNw, hZU, hZS, hTq, hNc⟩, hEx, hRc, hRs⟩ := cx
  intro h1 h2
  obtain ⟨g1, g2, g3⟩ := hk _ _ h h1 h2
  refine ⟨g1, g2, fun al H locs ls w wl wv hl => ?_⟩
  exact lv_ldc hx hb hown (hts _ hw) d (g3 al H locs ls w wl (ev_allc trivial wv) hl)
theorem ok_ldcw {index : Nat} {v : Int32} (d : decode cc pc = .ok (.ldc_w index, 3)) (hw : Cond.constant own index v ∈ Ts) : ev_Ok cc nL hh own Ts Tn Tq cl isI CO pc (a_push 3 (.int v)) := by
  intro p l e R s m args below meth c Q D cs ox A al0 k0 n0 call kont f hs o hs' cx hI hC hR hT hpc h hk
  obtain ⟨pc', lo, st⟩ := f
  cases hpc
  obtain ⟨⟨hx, hb, hml, hown, hts⟩, ⟨hKK, hA, hNw, hZU, hZS, hTq, hNc⟩, hEx, hRc, hRs⟩ := cx
  intro h1 h2
  obtain ⟨g1, g2, g3⟩ := hk _ _ h h1 h2
  refine ⟨g1, g2, fun al H locs ls w wl wv hl => ?_⟩
  exact lv_ldcw hx hb hown (hts _ hw) d (g3 al H locs ls w wl (ev_allc trivial wv) hl)
theorem ok_ldc2 {index : Nat} {v : Int64} (d : decode cc pc = .ok (.ldc2_w index, 3)) (hw : Cond.constantLong own index v ∈ Ts) : ev_Ok cc nL hh own Ts Tn Tq cl isI CO pc (a_push 3 (.long v)) := by
  intro p l e R s m args below meth c Q D cs ox A al0 k0 n0 call kont f hs o hs' cx hI hC hR hT hpc h hk
  obtain ⟨pc', lo, st⟩ := f
  cases hpc
  obtain ⟨⟨hx, hb, hml, hown, hts⟩, ⟨hKK, hA, hNw, hZU, hZS, hTq, hNc⟩, hEx, hRc, hRs⟩ := cx
  intro h1 h2
  obtain ⟨g1, g2, g3⟩ := hk _ _ h h1 h2
  refine ⟨g1, g2, fun al H locs ls w wl wv hl => ?_⟩
  exact lv_ldc2 hx hb hown (hts _ hw) d (g3 al H locs ls w wl (ev_allc trivial wv) hl)
theorem ok_goto {off : Int} {t : Nat} (d : decode cc pc = .ok (.goto off, 3)) (ht : (pc : Int) + off = (t : Int)) : ev_Ok cc nL hh own Ts Tn Tq cl isI CO pc (a_goto t) := by
  intro p l e R s m args below meth c Q D cs ox A al0 k0 n0 call kont f hs o hs' cx hI hC hR hT hpc h hk
  obtain ⟨pc', lo, st⟩ := f
  cases hpc
  obtain ⟨⟨hx, hb, hml, hown, hts⟩, ⟨hKK, hA, hNw, hZU, hZS, hTq, hNc⟩, hEx, hRc, hRs⟩ := cx
  intro h1 h2
  obtain ⟨g1, g2, g3⟩ := hk _ _ h h1 h2
  refine ⟨g1, g2, fun al H locs ls w wl wv hl => ?_⟩
  exact lv_goto hx hb d ht (g3 al H locs ls w wl wv hl)
theorem ok_if_eq {off : Int} {t : Nat} (d : decode cc pc = .ok (.ifCond .eq off, 3)) (ht : (pc : Int) + off = (t : Int)) : ev_Ok cc nL hh own Ts Tn Tq cl isI CO pc (a_if t (fun x => decide (x = 0))) := by
  intro p l e R s m args below meth c Q D cs ox A al0 k0 n0 call kont f hs o hs' cx hI hC hR hT hpc h hk
  obtain ⟨pc', lo, st⟩ := f
  cases hpc
  obtain ⟨⟨hx, hb, hml, hown, hts⟩, ⟨hKK, hA, hNw, hZU, hZS, hTq, hNc⟩, hEx, hRc, hRs⟩ := cx
  match st, h with
  | .int x :: st, h =>
    have h : (bif decide (x = 0) then kont (t, lo, st) hs else kont (pc' + 3, lo, st) hs) = some (o, hs') := h
    by_cases q : x = 0
    · rw [decide_eq_true q] at h
      intro h1 h2
      obtain ⟨g1, g2, g3⟩ := hk _ _ h h1 h2
      refine ⟨g1, g2, fun al H locs ls w wl wv hl => ?_⟩
      refine lv_if_eq hx hb d ht (fun q' => ?_) (fun q' => ?_)
      · exact g3 al H locs ls w wl (ev_tl wv) hl
      · exact absurd q q'
    · rw [decide_eq_false q] at h
      intro h1 h2
      obtain ⟨g1, g2, g3⟩ := hk _ _ h h1 h2
      refine ⟨g1, g2, fun al H locs ls w wl wv hl => ?_⟩
      refine lv_if_eq hx hb d ht (fun q' => ?_) (fun q' => ?_)
      · exact absurd q' q
      · exact g3 al H locs ls w wl (ev_tl wv) hl
theorem ok_if_ne {off : Int} {t : Nat} (d : decode cc pc = .ok (.ifCond .ne off, 3)) (ht : (pc : Int) + off = (t : Int)) : ev_Ok cc nL hh own Ts Tn Tq cl isI CO pc (a_if t (fun x => !decide (x = 0))) := by
  intro p l e R s m args below meth c Q D cs ox A al0 k0 n0 call kont f hs o hs' cx hI hC hR hT hpc h hk
  obtain ⟨pc', lo, st⟩ := f
  cases hpc
  obtain ⟨⟨hx, hb, hml, hown, hts⟩, ⟨hKK, hA, hNw, hZU, hZS, hTq, hNc⟩, hEx, hRc, hRs⟩ := cx
  match st, h with
  | .int x :: st, h =>
    have h : (bif !decide (x = 0) then kont (t, lo, st) hs else kont (pc' + 3, lo, st) hs) = some (o, hs') := h
    by_cases q : x = 0
    · rw [decide_eq_true q] at h
      intro h1 h2
      obtain ⟨g1, g2, g3⟩ := hk _ _ h h1 h2
      refine ⟨g1, g2, fun al H locs ls w wl wv hl => ?_⟩
      refine lv_if_ne hx hb d ht (fun q' => ?_) (fun q' => ?_)
      · exact absurd q q'
      · exact g3 al H locs ls w wl (ev_tl wv) hl
    · rw [decide_eq_false q] at h
      intro h1 h2
      obtain ⟨g1, g2, g3⟩ := hk _ _ h h1 h2
      refine ⟨g1, g2, fun al H locs ls w wl wv hl => ?_⟩
      refine lv_if_ne hx hb d ht (fun q' => ?_) (fun q' => ?_)
      · exact g3 al H locs ls w wl (ev_tl wv) hl
      · exact absurd q' q
theorem ok_if_lt {off : Int} {t : Nat} (d : decode cc pc = .ok (.ifCond .lt off, 3)) (ht : (pc : Int) + off = (t : Int)) : ev_Ok cc nL hh own Ts Tn Tq cl isI CO pc (a_if t (fun x => decide (x < 0))) := by
  intro p l e R s m args below meth c Q D cs ox A al0 k0 n0 call kont f hs o hs' cx hI hC hR hT hpc h hk
  obtain ⟨pc', lo, st⟩ := f
  cases hpc
  obtain ⟨⟨hx, hb, hml, hown, hts⟩, ⟨hKK, hA, hNw, hZU, hZS, hTq, hNc⟩, hEx, hRc, hRs⟩ := cx
  match st, h with
  | .int x :: st, h =>
    have h : (bif decide (x < 0) then kont (t, lo, st) hs else kont (pc' + 3, lo, st) hs) = some (o, hs') := h
    by_cases q : x < 0
    · rw [decide_eq_true q] at h
      intro h1 h2
      obtain ⟨g1, g2, g3⟩ := hk _ _ h h1 h2
      refine ⟨g1, g2, fun al H locs ls w wl wv hl => ?_⟩
      refine lv_if_lt hx hb d ht (fun q' => ?_) (fun q' => ?_)
      · exact g3 al H locs ls w wl (ev_tl wv) hl
      · exact absurd q q'
    · rw [decide_eq_false q] at h
      intro h1 h2
      obtain ⟨g1, g2, g3⟩ := hk _ _ h h1 h2
      refine ⟨g1, g2, fun al H locs ls w wl wv hl => ?_⟩
      refine lv_if_lt hx hb d ht (fun q' => ?_) (fun q' => ?_)
      · exact absurd q' q
      · exact g3 al H locs ls w wl (ev_tl wv) hl
theorem ok_if_ge {off : Int} {t : Nat} (d : decode cc pc = .ok (.ifCond .ge off, 3)) (ht : (pc : Int) + off = (t : Int)) : ev_Ok cc nL hh own Ts Tn Tq cl isI CO pc (a_if t (fun x => decide (0 ≤ x))) := by
  intro p l e R s m args below meth c Q D cs ox A al0 k0 n0 call kont f hs o hs' cx hI hC hR hT hpc h hk
  obtain ⟨pc', lo, st⟩ := f
  cases hpc
  obtain ⟨⟨hx, hb, hml, hown, hts⟩, ⟨hKK, hA, hNw, hZU, hZS, hTq, hNc⟩, hEx, hRc, hRs⟩ := cx
  match st, h with
  | .int x :: st, h =>
    have h : (bif decide (0 ≤ x) then kont (t, lo, st) hs else kont (pc' + 3, lo, st) hs) = some (o, hs') := h
    by_cases q : 0 ≤ x
    · rw [decide_eq_true q] at h
      intro h1 h2
      obtain ⟨g1, g2, g3⟩ := hk _ _ h h1 h2
      refine ⟨g1, g2, fun al H locs ls w wl wv hl => ?_⟩
      refine lv_if_ge hx hb d ht (fun q' => ?_) (fun q' => ?_)
      · exact g3 al H locs ls w wl (ev_tl wv) hl
      · exact absurd q q'
    · rw [decide_eq_false q] at h
      intro h1 h2
      obtain ⟨g1, g2, g3⟩ := hk _ _ h h1 h2
      refine ⟨g1, g2, fun al H locs ls w wl wv hl => ?_⟩
      refine lv_if_ge hx hb d ht (fun q' => ?_) (fun q' => ?_)
      · exact absurd q' q
      · exact g3 al H locs ls w wl (ev_tl wv) hl
theorem ok_if_gt {off : Int} {t : Nat} (d : decode cc pc = .ok (.ifCond .gt off, 3)) (ht : (pc : Int) + off = (t : Int)) : ev_Ok cc nL hh own Ts Tn Tq cl isI CO pc (a_if t (fun x => decide (0 < x))) := by
  intro p l e R s m args below meth c Q D cs ox A al0 k0 n0 call kont f hs o hs' cx hI hC hR hT hpc h hk
  obtain ⟨pc', lo, st⟩ := f
  cases hpc
  obtain ⟨⟨hx, hb, hml, hown, hts⟩, ⟨hKK, hA, hNw, hZU, hZS, hTq, hNc⟩, hEx, hRc, hRs⟩ := cx
  match st, h with
  | .int x :: st, h =>
    have h : (bif decide (0 < x) then kont (t, lo, st) hs else kont (pc' + 3, lo, st) hs) = some (o, hs') := h
    by_cases q : 0 < x
    · rw [decide_eq_true q] at h
      intro h1 h2
      obtain ⟨g1, g2, g3⟩ := hk _ _ h h1 h2
      refine ⟨g1, g2, fun al H locs ls w wl wv hl => ?_⟩
      refine lv_if_gt hx hb d ht (fun q' => ?_) (fun q' => ?_)
      · exact g3 al H locs ls w wl (ev_tl wv) hl
      · exact absurd q q'
    · rw [decide_eq_false q] at h
      intro h1 h2
      obtain ⟨g1, g2, g3⟩ := hk _ _ h h1 h2
      refine ⟨g1, g2, fun al H locs ls w wl wv hl => ?_⟩
      refine lv_if_gt hx hb d ht (fun q' => ?_) (fun q' => ?_)
      · exact absurd q' q
      · exact g3 al H locs ls w wl (ev_tl wv) hl
theorem ok_if_le {off : Int} {t : Nat} (d : decode cc pc = .ok (.ifCond .le off, 3)) (ht : (pc : Int) + off = (t : Int)) : ev_Ok cc nL hh own Ts Tn Tq cl isI CO pc (a_if t (fun x => decide (x ≤ 0))) := by
  intro p l e R s m args below meth c Q D cs ox A al0 k0 n0 call kont f hs o hs' cx hI hC hR hT hpc h hk
  obtain ⟨pc', lo, st⟩ := f
  cases hpc
  obtain ⟨⟨hx, hb, hml, hown, hts⟩, ⟨hKK, hA, hNw, hZU, hZS, hTq, hNc⟩, hEx, hRc, hRs⟩ := cx
  match st, h with
  | .int x :: st, h =>
    have h : (bif decide (x ≤ 0) then kont (t, lo, st) hs else kont (pc' + 3, lo, st) hs) = some (o, hs') := h
    by_cases q : x ≤ 0
    · rw [decide_eq_true q] at h
      intro h1 h2
      obtain ⟨g1, g2, g3⟩ := hk _ _ h h1 h2
      refine ⟨g1, g2, fun al H locs ls w wl wv hl => ?_⟩
      refine lv_if_le hx hb d ht (fun q' => ?_) (fun q' => ?_)
      · exact g3 al H locs ls w wl (ev_tl wv) hl
      · exact absurd q q'
    · rw [decide_eq_false q] at h
      intro h1 h2
      obtain ⟨g1, g2, g3⟩ := hk _ _ h h1 h2
      refine ⟨g1, g2, fun al H locs ls w wl wv hl => ?_⟩
      refine lv_if_le hx hb d ht (fun q' => ?_) (fun q' => ?_)
      · exact absurd q' q
      · exact g3 al H locs ls w wl (ev_tl wv) hl
theorem ok_icmp_eq {off : Int} {t : Nat} (d : decode cc pc = .ok (.if_icmp .eq off, 3)) (ht : (pc : Int) + off = (t : Int)) : ev_Ok cc nL hh own Ts Tn Tq cl isI CO pc (a_ic t (fun x y => decide (x = y))) := by
  intro p l e R s m args below meth c Q D cs ox A al0 k0 n0 call kont f hs o hs' cx hI hC hR hT hpc h hk
  obtain ⟨pc', lo, st⟩ := f
  cases hpc
  obtain ⟨⟨hx, hb, hml, hown, hts⟩, ⟨hKK, hA, hNw, hZU, hZS, hTq, hNc⟩, hEx, hRc, hRs⟩ := cx
  match st, h with
  | .int y :: .int x :: st, h =>
    have h : (bif decide (x = y) then kont (t, lo, st) hs else kont (pc' + 3, lo, st) hs) = some (o, hs') := h
    by_cases q : x = y
    · rw [decide_eq_true q] at h
      intro h1 h2
      obtain ⟨g1, g2, g3⟩ := hk _ _ h h1 h2
      refine ⟨g1, g2, fun al H locs ls w wl wv hl => ?_⟩
      refine lv_icmp_eq hx hb d ht (fun q' => ?_) (fun q' => ?_)
      · exact g3 al H locs ls w wl (ev_tl (ev_tl wv)) hl
      · exact absurd q q'
    · rw [decide_eq_false q] at h
      intro h1 h2
      obtain ⟨g1, g2, g3⟩ := hk _ _ h h1 h2
      refine ⟨g1, g2, fun al H locs ls w wl wv hl => ?_⟩
      refine lv_icmp_eq hx hb d ht (fun q' => ?_) (fun q' => ?_)
      · exact absurd q' q
      · exact g3 al H locs ls w wl (ev_tl (ev_tl wv)) hl
theorem ok_icmp_ne {off : Int} {t : Nat} (d : decode cc pc = .ok (.if_icmp .ne off, 3)) (ht : (pc : Int) + off = (t : Int)) : ev_Ok cc nL hh own Ts Tn Tq cl isI CO pc (a_ic t (fun x y => !decide (x = y))) := by
  intro p l e R s m args below meth c Q D cs ox A al0 k0 n0 call kont f hs o hs' cx hI hC hR hT hpc h hk
  obtain ⟨pc', lo, st⟩ := f
  cases hpc
  obtain ⟨⟨hx, hb, hml, hown, hts⟩, ⟨hKK, hA, hNw, hZU, hZS, hTq, hNc⟩, hEx, hRc, hRs⟩ := cx
  match st, h with
  | .int y :: .int x :: st, h =>
    have h : (bif !decide (x = y) then kont (t, lo, st) hs else kont (pc' + 3, lo, st) hs) = some (o, hs') := h
    by_cases q : x = y
    · rw [decide_eq_true q] at h
      intro h1 h2
      obtain ⟨g1, g2, g3⟩ := hk _ _ h h1 h2
      refine ⟨g1, g2, fun al H locs ls w wl wv hl => ?_⟩
      refine lv_icmp_ne hx hb d ht (fun q' => ?_) (fun q' => ?_)
      · exact absurd q q'
      · exact g3 al H locs ls w wl (ev_tl (ev_tl wv)) hl
    · rw [decide_eq_false q] at h
      intro h1 h2
      obtain ⟨g1, g2, g3⟩ := hk _ _ h h1 h2
      refine ⟨g1, g2, fun al H locs ls w wl wv hl => ?_⟩
      refine lv_icmp_ne hx hb d ht (fun q' => ?_) (fun q' => ?_)
      · exact g3 al H locs ls w wl (ev_tl (ev_tl wv)) hl
      · exact absurd q' q
theorem ok_icmp_lt {off : Int} {t : Nat} (d : decode cc pc = .ok (.if_icmp .lt off, 3)) (ht : (pc : Int) + off = (t : Int)) : ev_Ok cc nL hh own Ts Tn Tq cl isI CO pc (a_ic t (fun x y => decide (x < y))) := by
  intro p l e R s m args below meth c Q D cs ox A al0 k0 n0 call kont f hs o hs' cx hI hC hR hT hpc h hk
  obtain ⟨pc', lo, st⟩ := f
  cases hpc
  obtain ⟨⟨hx, hb, hml, hown, hts⟩, ⟨hKK, hA, hNw, hZU, hZS, hTq, hNc⟩, hEx, hRc, hRs⟩ := cx
  match st, h with
  | .int y :: .int x :: st, h =>
    have h : (bif decide (x < y) then kont (t, lo, st) hs else kont (pc' + 3, lo, st) hs) = some (o, hs') := h
    by_cases q : x < y
    · rw [decide_eq_true q] at h
      intro h1 h2
      obtain ⟨g1, g2, g3⟩ := hk _ _ h h1 h2
      refine ⟨g1, g2, fun al H locs ls w wl wv hl => ?_⟩
      refine lv_icmp_lt hx hb d ht (fun q' => ?_) (fun q' => ?_)
      · exact g3 al H locs ls w wl (ev_tl (ev_tl wv)) hl
      · exact absurd q q'
    · rw [decide_eq_false q] at h
      intro h1 h2
      obtain ⟨g1, g2, g3⟩ := hk _ _ h h1 h2
      refine ⟨g1, g2, fun al H locs ls w wl wv hl => ?_⟩
      refine lv_icmp_lt hx hb d ht (fun q' => ?_) (fun q' => ?_)
      · exact absurd q' q
      · exact g3 al H locs ls w wl (ev_tl (ev_tl wv)) hl
theorem ok_icmp_ge {off : Int} {t : Nat} (d : decode cc pc = .ok (.if_icmp .ge off, 3)) (ht : (pc : Int) + off = (t : Int)) : ev_Ok cc nL hh own Ts Tn Tq cl isI CO pc (a_ic t (fun x y => decide (y ≤ x))) := by
  intro p l e R s m args below meth c Q D cs ox A al0 k0 n0 call kont f hs o hs' cx hI hC hR hT hpc h hk
  obtain ⟨pc', lo, st⟩ := f
  cases hpc
  obtain ⟨⟨hx, hb, hml, hown, hts⟩, ⟨hKK, hA, hNw, hZU, hZS, hTq, hNc⟩, hEx, hRc, hRs⟩ := cx
  match st, h with
  | .int y :: .int x :: st, h =>
    have h : (bif decide (y ≤ x) then kont (t, lo, st) hs else kont (pc' + 3, lo, st) hs) = some (o, hs') := h
    by_cases q : y ≤ x
    · rw [decide_eq_true q] at h
      intro h1 h2
      obtain ⟨g1, g2, g3⟩ := hk _ _ h h1 h2
      refine ⟨g1, g2, fun al H locs ls w wl wv hl => ?_⟩
      refine lv_icmp_ge hx hb d ht (fun q' => ?_) (fun q' => ?_)
      · exact g3 al H locs ls w wl (ev_tl (ev_tl wv)) hl
      · exact absurd q q'
    · rw [decide_eq_false q] at h
      intro h1 h2
      obtain ⟨g1, g2, g3⟩ := hk _ _ h h1 h2
      refine ⟨g1, g2, fun al H locs ls w wl wv hl => ?_⟩
      refine lv_icmp_ge hx hb d ht (fun q' => ?_) (fun q' => ?_)
      · exact absurd q' q
      · exact g3 al H locs ls w wl (ev_tl (ev_tl wv)) hl
theorem ok_icmp_gt {off : Int} {t : Nat} (d : decode cc pc = .ok (.if_icmp .gt off, 3)) (ht : (pc : Int) + off = (t : Int)) : ev_Ok cc nL hh own Ts Tn Tq cl isI CO pc (a_ic t (fun x y => decide (y < x))) := by
  intro p l e R s m args below meth c Q D cs ox A al0 k0 n0 call kont f hs o hs' cx hI hC hR hT hpc h hk
  obtain ⟨pc', lo, st⟩ := f
  cases hpc
  obtain ⟨⟨hx, hb, hml, hown, hts⟩, ⟨hKK, hA, hNw, hZU, hZS, hTq, hNc⟩, hEx, hRc, hRs⟩ := cx
  match st, h with
  | .int y :: .int x :: st, h =>
    have h : (bif decide (y < x) then kont (t, lo, st) hs else kont (pc' + 3, lo, st) hs) = some (o, hs') := h
    by_cases q : y < x
    · rw [decide_eq_true q] at h
      intro h1 h2
      obtain ⟨g1, g2, g3⟩ := hk _ _ h h1 h2
      refine ⟨g1, g2, fun al H locs ls w wl wv hl => ?_⟩
      refine lv_icmp_gt hx hb d ht (fun q' => ?_) (fun q' => ?_)
      · exact g3 al H locs ls w wl (ev_tl (ev_tl wv)) hl
      · exact absurd q q'
    · rw [decide_eq_false q] at h
      intro h1 h2
      obtain ⟨g1, g2, g3⟩ := hk _ _ h h1 h2
      refine ⟨g1, g2, fun al H locs ls w wl wv hl => ?_⟩
      refine lv_icmp_gt hx hb d ht (fun q' => ?_) (fun q' => ?_)
      · exact absurd q' q
      · exact g3 al H locs ls w wl (ev_tl (ev_tl wv)) hl
theorem ok_icmp_le {off : Int} {t : Nat} (d : decode cc pc = .ok (.if_icmp .le off, 3)) (ht : (pc : Int) + off = (t : Int)) : ev_Ok cc nL hh own Ts Tn Tq cl isI CO pc (a_ic t (fun x y => decide (x ≤ y))) := by
  intro p l e R s m args below meth c Q D cs ox A al0 k0 n0 call kont f hs o hs' cx hI hC hR hT hpc h hk
  obtain ⟨pc', lo, st⟩ := f
  cases hpc
  obtain ⟨⟨hx, hb, hml, hown, hts⟩, ⟨hKK, hA, hNw, hZU, hZS, hTq, hNc⟩, hEx, hRc, hRs⟩ := cx
  match st, h with
  | .int y :: .int x :: st, h =>
    have h : (bif decide (x ≤ y) then kont (t, lo, st) hs else kont (pc' + 3, lo, st) hs) = some (o, hs') := h
    by_cases q : x ≤ y
    · rw [decide_eq_true q] at h
      intro h1 h2
      obtain ⟨g1, g2, g3⟩ := hk _ _ h h1 h2
      refine ⟨g1, g2, fun al H locs ls w wl wv hl => ?_⟩
      refine lv_icmp_le hx hb d ht (fun q' => ?_) (fun q' => ?_)
      · exact g3 al H locs ls w wl (ev_tl (ev_tl wv)) hl
      · exact absurd q q'
    · rw [decide_eq_false q] at h
      intro h1 h2
      obtain ⟨g1, g2, g3⟩ := hk _ _ h h1 h2
      refine ⟨g1, g2, fun al H locs ls w wl wv hl => ?_⟩
      refine lv_icmp_le hx hb d ht (fun q' => ?_) (fun q' => ?_)
      · exact absurd q' q
      · exact g3 al H locs ls w wl (ev_tl (ev_tl wv)) hl
theorem ok_iload_n {k : Fin 4} {i : Nat} (d : decode cc pc = .ok (.iload_n k, 1)) (hi : (k : Nat) = i) : ev_Ok cc nL hh own Ts Tn Tq cl isI CO pc (a_iload 1 i) := by
  intro p l e R s m args below meth c Q D cs ox A al0 k0 n0 call kont f hs o hs' cx hI hC hR hT hpc h hk
  obtain ⟨pc', lo, st⟩ := f
  cases hpc
  obtain ⟨⟨hx, hb, hml, hown, hts⟩, ⟨hKK, hA, hNw, hZU, hZS, hTq, hNc⟩, hEx, hRc, hRs⟩ := cx
  have h : a_iload 1 i call kont (pc', lo, st) hs = some (o, hs') := h
  unfold a_iload at h
  dsimp only at h
  cases hq : ev_look lo i with
  | none => rw [hq] at h; cases h
  | some v =>
    rw [hq] at h
    cases v with
    | int x =>
      intro h1 h2
      obtain ⟨g1, g2, g3⟩ := hk _ _ h h1 h2
      refine ⟨g1, g2, fun al H locs ls w wl wv hl => ?_⟩
      exact lv_iload_n hx hb d hi (ev_local hl hq) (g3 al H locs ls w wl (ev_allc (ev_look_ok wl hq) wv) hl)
    | _ => cases h
theorem ok_iload {i : Nat} (d : decode cc pc = .ok (.iload i, 2)) : ev_Ok cc nL hh own Ts Tn Tq cl isI CO pc (a_iload 2 i) := by
  intro p l e R s m args below meth c Q D cs ox A al0 k0 n0 call kont f hs o hs' cx hI hC hR hT hpc h hk
  obtain ⟨pc', lo, st⟩ := f
  cases hpc
  obtain ⟨⟨hx, hb, hml, hown, hts⟩, ⟨hKK, hA, hNw, hZU, hZS, hTq, hNc⟩, hEx, hRc, hRs⟩ := cx
  have h : a_iload 2 i call kont (pc', lo, st) hs = some (o, hs') := h
  unfold a_iload at h
  dsimp only at h
  cases hq : ev_look lo i with
  | none => rw [hq] at h; cases h
  | some v =>
    rw [hq] at h
    cases v with
    | int x =>
      intro h1 h2
      obtain ⟨g1, g2, g3⟩ := hk _ _ h h1 h2
      refine ⟨g1, g2, fun al H locs ls w wl wv hl => ?_⟩
      exact lv_iload hx hb d (ev_local hl hq) (g3 al H locs ls w wl (ev_allc (ev_look_ok wl hq) wv) hl)
    | _ => cases h
theorem ok_lload_n {k : Fin 4} {i : Nat} (d : decode cc pc = .ok (.lload_n k, 1)) (hi : (k : Nat) = i) : ev_Ok cc nL hh own Ts Tn Tq cl isI CO pc (a_lload 1 i) := by
  intro p l e R s m args below meth c Q D cs ox A al0 k0 n0 call kont f hs o hs' cx hI hC hR hT hpc h hk
  obtain ⟨pc', lo, st⟩ := f
  cases hpc
  obtain ⟨⟨hx, hb, hml, hown, hts⟩, ⟨hKK, hA, hNw, hZU, hZS, hTq, hNc⟩, hEx, hRc, hRs⟩ := cx
  have h : a_lload 1 i call kont (pc', lo, st) hs = some (o, hs') := h
  unfold a_lload at h
  dsimp only at h
  cases hq : ev_look lo i with
  | none => rw [hq] at h; cases h
  | some v =>
    rw [hq] at h
    cases v with
    | long x =>
      intro h1 h2
      obtain ⟨g1, g2, g3⟩ := hk _ _ h h1 h2
      refine ⟨g1, g2, fun al H locs ls w wl wv hl => ?_⟩
      exact lv_lload_n hx hb d hi (ev_local hl hq) (g3 al H locs ls w wl (ev_allc (ev_look_ok wl hq) wv) hl)
    | _ => cases h
theorem ok_lload {i : Nat} (d : decode cc pc = .ok (.lload i, 2)) : ev_Ok cc nL hh own Ts Tn Tq cl isI CO pc (a_lload 2 i) := by
  intro p l e R s m args below meth c Q D cs ox A al0 k0 n0 call kont f hs o hs' cx hI hC hR hT hpc h hk
  obtain ⟨pc', lo, st⟩ := f
  cases hpc
  obtain ⟨⟨hx, hb, hml, hown, hts⟩, ⟨hKK, hA, hNw, hZU, hZS, hTq, hNc⟩, hEx, hRc, hRs⟩ := cx
  have h : a_lload 2 i call kont (pc', lo, st) hs = some (o, hs') := h
  unfold a_lload at h
  dsimp only at h
  cases hq : ev_look lo i with
  | none => rw [hq] at h; cases h
  | some v =>
    rw [hq] at h
    cases v with
    | long x =>
      intro h1 h2
      obtain ⟨g1, g2, g3⟩ := hk _ _ h h1 h2
      refine ⟨g1, g2, fun al H locs ls w wl wv hl => ?_⟩
      exact lv_lload hx hb d (ev_local hl hq) (g3 al H locs ls w wl (ev_allc (ev_look_ok wl hq) wv) hl)
    | _ => cases h
theorem ok_dload_n {k : Fin 4} {i : Nat} (d : decode cc pc = .ok (.dload_n k, 1)) (hi : (k : Nat) = i) : ev_Ok cc nL hh own Ts Tn Tq cl isI CO pc (a_dload 1 i) := by
  intro p l e R s m args below meth c Q D cs ox A al0 k0 n0 call kont f hs o hs' cx hI hC hR hT hpc h hk
  obtain ⟨pc', lo, st⟩ := f
  cases hpc
  obtain ⟨⟨hx, hb, hml, hown, hts⟩, ⟨hKK, hA, hNw, hZU, hZS, hTq, hNc⟩, hEx, hRc, hRs⟩ := cx
  have h : a_dload 1 i call kont (pc', lo, st) hs = some (o, hs') := h
  unfold a_dload at h
  dsimp only at h
  cases hq : ev_look lo i with
  | none => rw [hq] at h; cases h
  | some v =>
    rw [hq] at h
    cases v with
    | double x =>
      intro h1 h2
      obtain ⟨g1, g2, g3⟩ := hk _ _ h h1 h2
      refine ⟨g1, g2, fun al H locs ls w wl wv hl => ?_⟩
      exact lv_dload_n hx hb d hi (ev_local hl hq) (g3 al H locs ls w wl (ev_allc (ev_look_ok wl hq) wv) hl)
    | _ => cases h
theorem ok_dload {i : Nat} (d : decode cc pc = .ok (.dload i, 2)) : ev_Ok cc nL hh own Ts Tn Tq cl isI CO pc (a_dload 2 i) := by
  intro p l e R s m args below meth c Q D cs ox A al0 k0 n0 call kont f hs o hs' cx hI hC hR hT hpc h hk
  obtain ⟨pc', lo, st⟩ := f
  cases hpc
  obtain ⟨⟨hx, hb, hml, hown, hts⟩, ⟨hKK, hA, hNw, hZU, hZS, hTq, hNc⟩, hEx, hRc, hRs⟩ := cx
  have h : a_dload 2 i call kont (pc', lo, st) hs = some (o, hs') := h
  unfold a_dload at h
  dsimp only at h
  cases hq : ev_look lo i with
  | none => rw [hq] at h; cases h
  | some v =>
    rw [hq] at h
    cases v with
    | double x =>
      intro h1 h2
      obtain ⟨g1, g2, g3⟩ := hk _ _ h h1 h2
      refine ⟨g1, g2, fun al H locs ls w wl wv hl => ?_⟩
      exact lv_dload hx hb d (ev_local hl hq) (g3 al H locs ls w wl (ev_allc (ev_look_ok wl hq) wv) hl)
    | _ => cases h
theorem ok_aload_n {k : Fin 4} {i : Nat} (d : decode cc pc = .ok (.aload_n k, 1)) (hi : (k : Nat) = i) : ev_Ok cc nL hh own Ts Tn Tq cl isI CO pc (a_aload 1 i) := by
  intro p l e R s m args below meth c Q D cs ox A al0 k0 n0 call kont f hs o hs' cx hI hC hR hT hpc h hk
  obtain ⟨pc', lo, st⟩ := f
  cases hpc
  obtain ⟨⟨hx, hb, hml, hown, hts⟩, ⟨hKK, hA, hNw, hZU, hZS, hTq, hNc⟩, hEx, hRc, hRs⟩ := cx
  have h : a_aload 1 i call kont (pc', lo, st) hs = some (o, hs') := h
  unfold a_aload at h
  dsimp only at h
  cases hq : ev_look lo i with
  | none => rw [hq] at h; cases h
  | some v =>
    rw [hq] at h
    cases v with
    | ref x =>
      intro h1 h2
      obtain ⟨g1, g2, g3⟩ := hk _ _ h h1 h2
      refine ⟨g1, g2, fun al H locs ls w wl wv hl => ?_⟩
      exact lv_aload_n hx hb d hi (ev_local hl hq) (g3 al H locs ls w wl (ev_allc (ev_look_ok wl hq) wv) hl)
    | float x =>
      intro h1 h2
      obtain ⟨g1, g2, g3⟩ := hk _ _ h h1 h2
      refine ⟨g1, g2, fun al H locs ls w wl wv hl => ?_⟩
      exact lv_aload_n hx hb d hi (ev_local hl hq) (g3 al H locs ls w wl (ev_allc (ev_look_ok wl hq) wv) hl)
    | _ => cases h
theorem ok_aload {i : Nat} (d : decode cc pc = .ok (.aload i, 2)) : ev_Ok cc nL hh own Ts Tn Tq cl isI CO pc (a_aload 2 i) := by
  intro p l e R s m args below meth c Q D cs ox A al0 k0 n0 call kont f hs o hs' cx hI hC hR hT hpc h hk
  obtain ⟨pc', lo, st⟩ := f
  cases hpc
  obtain ⟨⟨hx, hb, hml, hown, hts⟩, ⟨hKK, hA, hNw, hZU, hZS, hTq, hNc⟩, hEx, hRc, hRs⟩ := cx
  have h : a_aload 2 i call kont (pc', lo, st) hs = some (o, hs') := h
  unfold a_aload at h
  dsimp only at h
  cases hq : ev_look lo i with
  | none => rw [hq] at h; cases h
  | some v =>
    rw [hq] at h
    cases v with
    | ref x =>
      intro h1 h2
      obtain ⟨g1, g2, g3⟩ := hk _ _ h h1 h2
      refine ⟨g1, g2, fun al H locs ls w wl wv hl => ?_⟩
      exact lv_aload hx hb d (ev_local hl hq) (g3 al H locs ls w wl (ev_allc (ev_look_ok wl hq) wv) hl)
    | float x =>
      intro h1 h2
      obtain ⟨g1, g2, g3⟩ := hk _ _ h h1 h2
      refine ⟨g1, g2, fun al H locs ls w wl wv hl => ?_⟩
      exact lv_aload hx hb d (ev_local hl hq) (g3 al H locs ls w wl (ev_allc (ev_look_ok wl hq) wv) hl)
    | _ => cases h
theorem ok_istore_n {k : Fin 4} {i : Nat} (d : decode cc pc = .ok (.istore_n k, 1)) (hi : (k : Nat) = i) : ev_Ok cc nL hh own Ts Tn Tq cl isI CO pc (a_istore nL 1 i) := by
  intro p l e R s m args below meth c Q D cs ox A al0 k0 n0 call kont f hs o hs' cx hI hC hR hT hpc h hk
  obtain ⟨pc', lo, st⟩ := f
  cases hpc
  obtain ⟨⟨hx, hb, hml, hown, hts⟩, ⟨hKK, hA, hNw, hZU, hZS, hTq, hNc⟩, hEx, hRc, hRs⟩ := cx
  match st, h with
  | .int x :: st, h =>
    have h : (if i < nL then kont (pc' + 1, ev_st1 lo i (.int x), st) hs else none) = some (o, hs') := h
    by_cases q : i < nL
    · rw [if_pos q] at h
      intro h1 h2
      obtain ⟨g1, g2, g3⟩ := hk _ _ h h1 h2
      refine ⟨g1, g2, fun al H locs ls w wl wv hl => ?_⟩
      exact lv_istore_n (lv' := (ev_st1 lo i (.int x)).map (fun q : Nat × Value => (q.1, ev_rv ox al q.2))) hx hb d hi hl q (ev_st1_eq ox al i lo (.int x)) (fun ls' hl' => g3 al H locs ls' w (ev_st1_ok wl (ev_hd wv)) (ev_tl wv) hl')
    · rw [if_neg q] at h; cases h
theorem ok_istore {i : Nat} (d : decode cc pc = .ok (.istore i, 2)) : ev_Ok cc nL hh own Ts Tn Tq cl isI CO pc (a_istore nL 2 i) := by
  intro p l e R s m args below meth c Q D cs ox A al0 k0 n0 call kont f hs o hs' cx hI hC hR hT hpc h hk
  obtain ⟨pc', lo, st⟩ := f
  cases hpc
  obtain ⟨⟨hx, hb, hml, hown, hts⟩, ⟨hKK, hA, hNw, hZU, hZS, hTq, hNc⟩, hEx, hRc, hRs⟩ := cx
  match st, h with
  | .int x :: st, h =>
    have h : (if i < nL then kont (pc' + 2, ev_st1 lo i (.int x), st) hs else none) = some (o, hs') := h
    by_cases q : i < nL
    · rw [if_pos q] at h
      intro h1 h2
      obtain ⟨g1, g2, g3⟩ := hk _ _ h h1 h2
      refine ⟨g1, g2, fun al H locs ls w wl wv hl => ?_⟩
      exact lv_istore (lv' := (ev_st1 lo i (.int x)).map (fun q : Nat × Value => (q.1, ev_rv ox al q.2))) hx hb d hl q (ev_st1_eq ox al i lo (.int x)) (fun ls' hl' => g3 al H locs ls' w (ev_st1_ok wl (ev_hd wv)) (ev_tl wv) hl')
    · rw [if_neg q] at h; cases h
theorem ok_lstore_n {k : Fin 4} {i : Nat} (d : decode cc pc = .ok (.lstore_n k, 1)) (hi : (k : Nat) = i) : ev_Ok cc nL hh own Ts Tn Tq cl isI CO pc (a_lstore nL 1 i) := by
  intro p l e R s m args below meth c Q D cs ox A al0 k0 n0 call kont f hs o hs' cx hI hC hR hT hpc h hk
  obtain ⟨pc', lo, st⟩ := f
  cases hpc
  obtain ⟨⟨hx, hb, hml, hown, hts⟩, ⟨hKK, hA, hNw, hZU, hZS, hTq, hNc⟩, hEx, hRc, hRs⟩ := cx
  match st, h with
  | .long x :: st, h =>
    have h : (if i + 1 < nL then kont (pc' + 1, ev_st2 lo i (.long x), st) hs else none) = some (o, hs') := h
    by_cases q : i + 1 < nL
    · rw [if_pos q] at h
      intro h1 h2
      obtain ⟨g1, g2, g3⟩ := hk _ _ h h1 h2
      refine ⟨g1, g2, fun al H locs ls w wl wv hl => ?_⟩
      exact lv_lstore_n (lv' := (ev_st2 lo i (.long x)).map (fun q : Nat × Value => (q.1, ev_rv ox al q.2))) hx hb d hi hl q (ev_st2_eq ox al i lo (.long x)) (fun ls' hl' => g3 al H locs ls' w (ev_st2_ok wl (ev_hd wv)) (ev_tl wv) hl')
    · rw [if_neg q] at h; cases h
theorem ok_lstore {i : Nat} (d : decode cc pc = .ok (.lstore i, 2)) : ev_Ok cc nL hh own Ts Tn Tq cl isI CO pc (a_lstore nL 2 i) := by
  intro p l e R s m args below meth c Q D cs ox A al0 k0 n0 call kont f hs o hs' cx hI hC hR hT hpc h hk
  obtain ⟨pc', lo, st⟩ := f
  cases hpc
  obtain ⟨⟨hx, hb, hml, hown, hts⟩, ⟨hKK, hA, hNw, hZU, hZS, hTq, hNc⟩, hEx, hRc, hRs⟩ := cx
  match st, h with
  | .long x :: st, h =>
    have h : (if i + 1 < nL then kont (pc' + 2, ev_st2 lo i (.long x), st) hs else none) = some (o, hs') := h
    by_cases q : i + 1 < nL
    · rw [if_pos q] at h
      intro h1 h2
      obtain ⟨g1, g2, g3⟩ := hk _ _ h h1 h2
      refine ⟨g1, g2, fun al H locs ls w wl wv hl => ?_⟩
      exact lv_lstore (lv' := (ev_st2 lo i (.long x)).map (fun q : Nat × Value => (q.1, ev_rv ox al q.2))) hx hb d hl q (ev_st2_eq ox al i lo (.long x)) (fun ls' hl' => g3 al H locs ls' w (ev_st2_ok wl (ev_hd wv)) (ev_tl wv) hl')
    · rw [if_neg q] at h; cases h
theorem ok_dstore_n {k : Fin 4} {i : Nat} (d : decode cc pc = .ok (.dstore_n k, 1)) (hi : (k : Nat) = i) : ev_Ok cc nL hh own Ts Tn Tq cl isI CO pc (a_dstore nL 1 i) := by
  intro p l e R s m args below meth c Q D cs ox A al0 k0 n0 call kont f hs o hs' cx hI hC hR hT hpc h hk
  obtain ⟨pc', lo, st⟩ := f
  cases hpc
  obtain ⟨⟨hx, hb, hml, hown, hts⟩, ⟨hKK, hA, hNw, hZU, hZS, hTq, hNc⟩, hEx, hRc, hRs⟩ := cx
  match st, h with
  | .double x :: st, h =>
    have h : (if i + 1 < nL then kont (pc' + 1, ev_st2 lo i (.double x), st) hs else none) = some (o, hs') := h
    by_cases q : i + 1 < nL
    · rw [if_pos q] at h
      intro h1 h2
      obtain ⟨g1, g2, g3⟩ := hk _ _ h h1 h2
      refine ⟨g1, g2, fun al H locs ls w wl wv hl => ?_⟩
      exact lv_dstore_n (lv' := (ev_st2 lo i (.double x)).map (fun q : Nat × Value => (q.1, ev_rv ox al q.2))) hx hb d hi hl q (ev_st2_eq ox al i lo (.double x)) (fun ls' hl' => g3 al H locs ls' w (ev_st2_ok wl (ev_hd wv)) (ev_tl wv) hl')
    · rw [if_neg q] at h; cases h
theorem ok_dstore {i : Nat} (d : decode cc pc = .ok (.dstore i, 2)) : ev_Ok cc nL hh own Ts Tn Tq cl isI CO pc (a_dstore nL 2 i) := by
  intro p l e R s m args below meth c Q D cs ox A al0 k0 n0 call kont f hs o hs' cx hI hC hR hT hpc h hk
  obtain ⟨pc', lo, st⟩ := f
  cases hpc
  obtain ⟨⟨hx, hb, hml, hown, hts⟩, ⟨hKK, hA, hNw, hZU, hZS, hTq, hNc⟩, hEx, hRc, hRs⟩ := cx
  match st, h with
  | .double x :: st, h =>
    have h : (if i + 1 < nL then kont (pc' + 2, ev_st2 lo i (.double x), st) hs else none) = some (o, hs') := h
    by_cases q : i + 1 < nL
    · rw [if_pos q] at h
      intro h1 h2
      obtain ⟨g1, g2, g3⟩ := hk _ _ h h1 h2
      refine ⟨g1, g2, fun al H locs ls w wl wv hl => ?_⟩
      exact lv_dstore (lv' := (ev_st2 lo i (.double x)).map (fun q : Nat × Value => (q.1, ev_rv ox al q.2))) hx hb d hl q (ev_st2_eq ox al i lo (.double x)) (fun ls' hl' => g3 al H locs ls' w (ev_st2_ok wl (ev_hd wv)) (ev_tl wv) hl')
    · rw [if_neg q] at h; cases h
theorem ok_astore_n {k : Fin 4} {i : Nat} (d : decode cc pc = .ok (.astore_n k, 1)) (hi : (k : Nat) = i) : ev_Ok cc nL hh own Ts Tn Tq cl isI CO pc (a_astore nL 1 i) := by
  intro p l e R s m args below meth c Q D cs ox A al0 k0 n0 call kont f hs o hs' cx hI hC hR hT hpc h hk
  obtain ⟨pc', lo, st⟩ := f
  cases hpc
  obtain ⟨⟨hx, hb, hml, hown, hts⟩, ⟨hKK, hA, hNw, hZU, hZS, hTq, hNc⟩, hEx, hRc, hRs⟩ := cx
  match st, h with
  | .ref x :: st, h =>
    have h : (if i < nL then kont (pc' + 1, ev_st1 lo i (.ref x), st) hs else none) = some (o, hs') := h
    by_cases q : i < nL
    · rw [if_pos q] at h
      intro h1 h2
      obtain ⟨g1, g2, g3⟩ := hk _ _ h h1 h2
      refine ⟨g1, g2, fun al H locs ls w wl wv hl => ?_⟩
      exact lv_astore_n (lv' := (ev_st1 lo i (.ref x)).map (fun q : Nat × Value => (q.1, ev_rv ox al q.2))) hx hb d hi hl q (ev_st1_eq ox al i lo (.ref x)) (fun ls' hl' => g3 al H locs ls' w (ev_st1_ok wl (ev_hd wv)) (ev_tl wv) hl')
    · rw [if_neg q] at h; cases h
  | .float x :: st, h =>
    have h : (if i < nL then kont (pc' + 1, ev_st1 lo i (.float x), st) hs else none) = some (o, hs') := h
    by_cases q : i < nL
    · rw [if_pos q] at h
      intro h1 h2
      obtain ⟨g1, g2, g3⟩ := hk _ _ h h1 h2
      refine ⟨g1, g2, fun al H locs ls w wl wv hl => ?_⟩
      exact lv_astore_n (lv' := (ev_st1 lo i (.float x)).map (fun q : Nat × Value => (q.1, ev_rv ox al q.2))) hx hb d hi hl q (ev_st1_eq ox al i lo (.float x)) (fun ls' hl' => g3 al H locs ls' w (ev_st1_ok wl (ev_hd wv)) (ev_tl wv) hl')
    · rw [if_neg q] at h; cases h
theorem ok_astore {i : Nat} (d : decode cc pc = .ok (.astore i, 2)) : ev_Ok cc nL hh own Ts Tn Tq cl isI CO pc (a_astore nL 2 i) := by
  intro p l e R s m args below meth c Q D cs ox A al0 k0 n0 call kont f hs o hs' cx hI hC hR hT hpc h hk
  obtain ⟨pc', lo, st⟩ := f
  cases hpc
  obtain ⟨⟨hx, hb, hml, hown, hts⟩, ⟨hKK, hA, hNw, hZU, hZS, hTq, hNc⟩, hEx, hRc, hRs⟩ := cx
  match st, h with
  | .ref x :: st, h =>
    have h : (if i < nL then kont (pc' + 2, ev_st1 lo i (.ref x), st) hs else none) = some (o, hs') := h
    by_cases q : i < nL
    · rw [if_pos q] at h
      intro h1 h2
      obtain ⟨g1, g2, g3⟩ := hk _ _ h h1 h2
      refine ⟨g1, g2, fun al H locs ls w wl wv hl => ?_⟩
      exact lv_astore (lv' := (ev_st1 lo i (.ref x)).map (fun q : Nat × Value => (q.1, ev_rv ox al q.2))) hx hb d hl q (ev_st1_eq ox al i lo (.ref x)) (fun ls' hl' => g3 al H locs ls' w (ev_st1_ok wl (ev_hd wv)) (ev_tl wv) hl')
    · rw [if_neg q] at h; cases h
  | .float x :: st, h =>
    have h : (if i < nL then kont (pc' + 2, ev_st1 lo i (.float x), st) hs else none) = some (o, hs') := h
    by_cases q : i < nL
    · rw [if_pos q] at h
      intro h1 h2
      obtain ⟨g1, g2, g3⟩ := hk _ _ h h1 h2
      refine ⟨g1, g2, fun al H locs ls w wl wv hl => ?_⟩
      exact lv_astore (lv' := (ev_st1 lo i (.float x)).map (fun q : Nat × Value => (q.1, ev_rv ox al q.2))) hx hb d hl q (ev_st1_eq ox al i lo (.float x)) (fun ls' hl' => g3 al H locs ls' w (ev_st1_ok wl (ev_hd wv)) (ev_tl wv) hl')
    · rw [if_neg q] at h; cases h
theorem ok_iinc {i : Nat} {n : Int} {dd : Int32} (d : decode cc pc = .ok (.iinc i n, 3)) (hd : Int32.ofInt n = dd) : ev_Ok cc nL hh own Ts Tn Tq cl isI CO pc (a_iinc nL i dd) := by
  intro p l e R s m args below meth c Q D cs ox A al0 k0 n0 call kont f hs o hs' cx hI hC hR hT hpc h hk
  obtain ⟨pc', lo, st⟩ := f
  cases hpc
  obtain ⟨⟨hx, hb, hml, hown, hts⟩, ⟨hKK, hA, hNw, hZU, hZS, hTq, hNc⟩, hEx, hRc, hRs⟩ := cx
  have h : a_iinc nL i dd call kont (pc', lo, st) hs = some (o, hs') := h
  unfold a_iinc at h
  dsimp only at h
  cases hq : ev_look lo i with
  | none => rw [hq] at h; cases h
  | some v =>
    rw [hq] at h
    cases v with
    | int x =>
      dsimp only at h
      by_cases q : i < nL
      · rw [if_pos q] at h
        intro h1 h2
        obtain ⟨g1, g2, g3⟩ := hk _ _ h h1 h2
        refine ⟨g1, g2, fun al H locs ls w wl wv hl => ?_⟩
        have hm : (i, Value.int x) ∈ lo.map (fun q : Nat × Value => (q.1, ev_rv ox al q.2)) := List.mem_map.mpr ⟨(i, .int x), ev_look_mem lo i _ hq, rfl⟩
        obtain ⟨k, hk2⟩ := List.getElem?_of_mem hm
        exact lv_iinc (v := x + dd) (lv' := (ev_st1 lo i (.int (x + dd))).map (fun q : Nat × Value => (q.1, ev_rv ox al q.2))) hx hb d hl (k := k) hk2 (by rw [hd]) q (ev_st1_eq ox al i lo (.int (x + dd))) (fun ls' hl' => g3 al H locs ls' w (ev_st1_ok wl trivial) wv hl')
      · rw [if_neg q] at h; cases h
    | _ => cases h
theorem ok_dup (d : decode cc pc = .ok (.dup, 1)) : ev_Ok cc nL hh own Ts Tn Tq cl isI CO pc a_dup := by
  intro p l e R s m args below meth c Q D cs ox A al0 k0 n0 call kont f hs o hs' cx hI hC hR hT hpc h hk
  obtain ⟨pc', lo, st⟩ := f
  cases hpc
  obtain ⟨⟨hx, hb, hml, hown, hts⟩, ⟨hKK, hA, hNw, hZU, hZS, hTq, hNc⟩, hEx, hRc, hRs⟩ := cx
  match st, h with
  | v :: st, h =>
    have h : (if v.category = 1 then kont (pc' + 1, lo, v :: v :: st) hs else none) = some (o, hs') := h
    by_cases q : v.category = 1
    · rw [if_pos q] at h
      intro h1 h2
      obtain ⟨g1, g2, g3⟩ := hk _ _ h h1 h2
      refine ⟨g1, g2, fun al H locs ls w wl wv hl => ?_⟩
      exact lv_dup hx hb d ((ev_rv_cat _ _ _).trans q) (g3 al H locs ls w wl (ev_allc (ev_hd wv) wv) hl)
    · rw [if_neg q] at h; cases h
theorem ok_pop (d : decode cc pc = .ok (.pop, 1)) : ev_Ok cc nL hh own Ts Tn Tq cl isI CO pc a_pop := by
  intro p l e R s m args below meth c Q D cs ox A al0 k0 n0 call kont f hs o hs' cx hI hC hR hT hpc h hk
  obtain ⟨pc', lo, st⟩ := f
  cases hpc
  obtain ⟨⟨hx, hb, hml, hown, hts⟩, ⟨hKK, hA, hNw, hZU, hZS, hTq, hNc⟩, hEx, hRc, hRs⟩ := cx
  match st, h with
  | v :: st, h =>
    have h : (if v.category = 1 then kont (pc' + 1, lo, st) hs else none) = some (o, hs') := h
    by_cases q : v.category = 1
    · rw [if_pos q] at h
      intro h1 h2
      obtain ⟨g1, g2, g3⟩ := hk _ _ h h1 h2
      refine ⟨g1, g2, fun al H locs ls w wl wv hl => ?_⟩
      exact lv_pop hx hb d ((ev_rv_cat ox al v).trans q) (g3 al H locs ls w wl (ev_tl wv) hl)
    · rw [if_neg q] at h; cases h
theorem ok_dup_x1 (d : decode cc pc = .ok (.dup_x1, 1)) : ev_Ok cc nL hh own Ts Tn Tq cl isI CO pc a_dupx1 := by
  intro p l e R s m args below meth c Q D cs ox A al0 k0 n0 call kont f hs o hs' cx hI hC hR hT hpc h hk
  obtain ⟨pc', lo, st⟩ := f
  cases hpc
  obtain ⟨⟨hx, hb, hml, hown, hts⟩, ⟨hKK, hA, hNw, hZU, hZS, hTq, hNc⟩, hEx, hRc, hRs⟩ := cx
  match st, h with
  | v :: u :: st, h =>
    have h : (if v.category = 1 ∧ u.category = 1 then kont (pc' + 1, lo, v :: u :: v :: st) hs else none) = some (o, hs') := h
    by_cases q : v.category = 1 ∧ u.category = 1
    · rw [if_pos q] at h
      intro h1 h2
      obtain ⟨g1, g2, g3⟩ := hk _ _ h h1 h2
      refine ⟨g1, g2, fun al H locs ls w wl wv hl => ?_⟩
      exact lv_dup_x1 hx hb d ((ev_rv_cat _ _ _).trans q.1) ((ev_rv_cat _ _ _).trans q.2) (g3 al H locs ls w wl (ev_allc (ev_hd wv) (ev_allc (ev_hd (ev_tl wv)) (ev_allc (ev_hd wv) (ev_tl (ev_tl wv))))) hl)
    · rw [if_neg q] at h; cases h
theorem ok_dup_x2 (d : decode cc pc = .ok (.dup_x2, 1)) : ev_Ok cc nL hh own Ts Tn Tq cl isI CO pc a_dupx2 := by
  intro p l e R s m args below meth c Q D cs ox A al0 k0 n0 call kont f hs o hs' cx hI hC hR hT hpc h hk
  obtain ⟨pc', lo, st⟩ := f
  cases hpc
  obtain ⟨⟨hx, hb, hml, hown, hts⟩, ⟨hKK, hA, hNw, hZU, hZS, hTq, hNc⟩, hEx, hRc, hRs⟩ := cx
  match st, h with
  | v :: u :: t :: st, h =>
    have h : (if v.category = 1 ∧ u.category = 1 ∧ t.category = 1 then kont (pc' + 1, lo, v :: u :: t :: v :: st) hs else none) = some (o, hs') := h
    by_cases q : v.category = 1 ∧ u.category = 1 ∧ t.category = 1
    · rw [if_pos q] at h
      intro h1 h2
      obtain ⟨g1, g2, g3⟩ := hk _ _ h h1 h2
      refine ⟨g1, g2, fun al H locs ls w wl wv hl => ?_⟩
      exact lv_dup_x2 hx hb d ((ev_rv_cat _ _ _).trans q.1) ((ev_rv_cat _ _ _).trans q.2.1) ((ev_rv_cat _ _ _).trans q.2.2) (g3 al H locs ls w wl (ev_allc (ev_hd wv) (ev_allc (ev_hd (ev_tl wv)) (ev_allc (ev_hd (ev_tl (ev_tl wv))) (ev_allc (ev_hd wv) (ev_tl (ev_tl (ev_tl wv))))))) hl)
    · rw [if_neg q] at h; cases h
theorem ok_dup2 (d : decode cc pc = .ok (.dup2, 1)) : ev_Ok cc nL hh own Ts Tn Tq cl isI CO pc a_dup2 := by
  intro p l e R s m args below meth c Q D cs ox A al0 k0 n0 call kont f hs o hs' cx hI hC hR hT hpc h hk
  obtain ⟨pc', lo, st⟩ := f
  cases hpc
  obtain ⟨⟨hx, hb, hml, hown, hts⟩, ⟨hKK, hA, hNw, hZU, hZS, hTq, hNc⟩, hEx, hRc, hRs⟩ := cx
  match st, h with
  | v :: u :: st, h =>
    have h : (if v.category = 1 ∧ u.category = 1 then kont (pc' + 1, lo, v :: u :: v :: u :: st) hs else none) = some (o, hs') := h
    by_cases q : v.category = 1 ∧ u.category = 1
    · rw [if_pos q] at h
      intro h1 h2
      obtain ⟨g1, g2, g3⟩ := hk _ _ h h1 h2
      refine ⟨g1, g2, fun al H locs ls w wl wv hl => ?_⟩
      exact lv_dup2_11 hx hb d ((ev_rv_cat _ _ _).trans q.1) ((ev_rv_cat _ _ _).trans q.2) (g3 al H locs ls w wl (ev_allc (ev_hd wv) (ev_allc (ev_hd (ev_tl wv)) wv)) hl)
    · rw [if_neg q] at h; cases h
theorem ok_getfield {C : String} {T : u_T} {N index ci kf : Nat} (d : decode cc pc = .ok (.getfield index, 3)) (hc : cl[ci]? = some (C, T, N)) (hin : ∀ w ∈ u_ws C T N, w ∈ Ts) (hkf : kf < N) (hw : Cond.fieldLink own index (T kf).1 (T kf).2.1 (T kf).2.2.1 ∈ Ts) : ev_Ok cc nL hh own Ts Tn Tq cl isI CO pc (a_getf ci kf) := by
  intro p l e R s m args below meth c Q D cs ox A al0 k0 n0 call kont f hs o hs' cx hI hC hR hT hpc h hk
  obtain ⟨pc', lo, st⟩ := f
  cases hpc
  obtain ⟨⟨hx, hb, hml, hown, hts⟩, ⟨hKK, hA, hNw, hZU, hZS, hTq, hNc⟩, hEx, hRc, hRs⟩ := cx
  have h : (a_getf ci kf) call kont (pc', lo, st) hs = some (o, hs') := h
  match st, h with
  | .ref a :: st, h =>
    unfold a_getf at h
    dsimp only at h
    cases hq : hs.1[a]? with
    | none => rw [hq] at h; cases h
    | some e0 =>
      rw [hq] at h
      obtain ⟨t0, fs⟩ := e0
      cases t0 with
      | inl t => cases h
      | inr cx =>
        dsimp only at h
        cases hb2 : Nat.beq cx ci with
        | false => rw [hb2] at h; cases h
        | true =>
          rw [hb2] at h
          cases Nat.eq_of_beq_eq_true hb2
          dsimp only [cond_true] at h
          cases hv : fs[kf]? with
          | none => rw [hv] at h; cases h
          | some v =>
            rw [hv] at h
            intro h1 h2
            obtain ⟨g1, g2, g3⟩ := hk _ _ h h1 h2
            refine ⟨g1, g2, fun al H locs ls w wl wv hl => ?_⟩
            have he := ev_w_get (cs := cs) (ox := ox) w.2.1 hq
            exact va_get hx hb hts hin hown hKK w.2.2.1 a (fs := fs.map (ev_rv ox al)) he hc kf hkf (hts _ hw) (fun x h => h) (v := ev_rv ox al v) (by rw [List.getElem?_map, hv]; rfl) d (g3 al H locs ls w wl (ev_allc (w.2.2.2.2.2 _ (List.mem_of_getElem? hq) v (List.mem_of_getElem? hv)) (ev_tl wv)) hl)
theorem ok_getfieldN {C : String} {T : u_T} {N index ci kf : Nat} (d : decode cc pc = .ok (.getfield index, 3)) (hc : cl[ci]? = some (C, T, N)) (hin : ∀ w ∈ u_ws C T N, w ∈ Ts) (hkf : kf < N) {host : String} (hw : Cond.fieldLinkNest own index (T kf).1 (T kf).2.1 (T kf).2.2.1 host ∈ Tn) : ev_Ok cc nL hh own Ts Tn Tq cl isI CO pc (a_getf ci kf) := by
  intro p l e R s m args below meth c Q D cs ox A al0 k0 n0 call kont f hs o hs' cx hI hC hR hT hpc h hk
  obtain ⟨pc', lo, st⟩ := f
  cases hpc
  obtain ⟨⟨hx, hb, hml, hown, hts⟩, ⟨hKK, hA, hNw, hZU, hZS, hTq, hNc⟩, hEx, hRc, hRs⟩ := cx
  have h : (a_getf ci kf) call kont (pc', lo, st) hs = some (o, hs') := h
  match st, h with
  | .ref a :: st, h =>
    unfold a_getf at h
    dsimp only at h
    cases hq : hs.1[a]? with
    | none => rw [hq] at h; cases h
    | some e0 =>
      rw [hq] at h
      obtain ⟨t0, fs⟩ := e0
      cases t0 with
      | inl t => cases h
      | inr cx =>
        dsimp only at h
        cases hb2 : Nat.beq cx ci with
        | false => rw [hb2] at h; cases h
        | true =>
          rw [hb2] at h
          cases Nat.eq_of_beq_eq_true hb2
          dsimp only [cond_true] at h
          cases hv : fs[kf]? with
          | none => rw [hv] at h; cases h
          | some v =>
            rw [hv] at h
            intro h1 h2
            obtain ⟨g1, g2, g3⟩ := hk _ _ h h1 h2
            refine ⟨g1, g2, fun al H locs ls w wl wv hl => ?_⟩
            have he := ev_w_get (cs := cs) (ox := ox) w.2.1 hq
            exact va_getN hx hb hts hin hown hKK w.2.2.1 a (fs := fs.map (ev_rv ox al)) he hc kf hkf (va_Nw.use rfl (hNw _ hw).2) (fun x h => h) (v := ev_rv ox al v) (by rw [List.getElem?_map, hv]; rfl) d (g3 al H locs ls w wl (ev_allc (w.2.2.2.2.2 _ (List.mem_of_getElem? hq) v (List.mem_of_getElem? hv)) (ev_tl wv)) hl)
theorem ok_putfield {C : String} {T : u_T} {N index ci kf : Nat} (d : decode cc pc = .ok (.putfield index, 3)) (hc : cl[ci]? = some (C, T, N)) (hin : ∀ w ∈ u_ws C T N, w ∈ Ts) (hkf : kf < N) {ty : Nat} {ty0 : Nat → FieldType} (hty : ∀ k, k < N → parseFieldDescriptor (T k).2.2.1 = some (ty0 k)) (hnm : ∀ a, a < N → ∀ b, b < N → a ≠ b → (T a).2.1 ≠ (T b).2.1) (htc : ev_tc (ty0 kf) = ty) (hw : Cond.fieldLink own index (T kf).1 (T kf).2.1 (T kf).2.2.1 ∈ Ts) (hfin : (T kf).2.2.2 = false) : ev_Ok cc nL hh own Ts Tn Tq cl isI CO pc (a_putf ty ci kf) := by
  intro p l e R s m args below meth c Q D cs ox A al0 k0 n0 call kont f hs o hs' cx hI hC hR hT hpc h hk
  obtain ⟨pc', lo, st⟩ := f
  cases hpc
  obtain ⟨⟨hx, hb, hml, hown, hts⟩, ⟨hKK, hA, hNw, hZU, hZS, hTq, hNc⟩, hEx, hRc, hRs⟩ := cx
  have h : (a_putf ty ci kf) call kont (pc', lo, st) hs = some (o, hs') := h
  match st, h with
  | v :: .ref a :: st, h =>
    unfold a_putf at h
    dsimp only at h
    cases hq : hs.1[a]? with
    | none => rw [hq] at h; cases h
    | some e0 =>
      rw [hq] at h
      obtain ⟨t0, fs⟩ := e0
      cases t0 with
      | inl t => cases h
      | inr cx =>
        dsimp only at h
        cases hb2 : (Nat.beq cx ci && (ev_fit ty v && decide (kf < fs.length))) with
        | false => rw [hb2] at h; cases h
        | true =>
          rw [hb2] at h
          simp only [Bool.and_eq_true, decide_eq_true_eq] at hb2
          obtain ⟨q1, q2, q3⟩ := hb2
          cases Nat.eq_of_beq_eq_true q1
          dsimp only [cond_true] at h
          intro h1 h2
          obtain ⟨g1, g2, g3⟩ := hk _ _ h h1 h2
          refine ⟨g1, g2, fun al H locs ls w wl wv hl => ?_⟩
          have he := ev_w_get (cs := cs) (ox := ox) w.2.1 hq
          have hf := ev_fit_spec ox al (ty0 kf) (v := v) (by rw [htc]; exact q2)
          have hset : (ev_w cs ox al hs.1).set a (al.getD a 0, .inr (ci, (fs.map (ev_rv ox al)).set kf (ev_rv ox al v))) = ev_w cs ox al (hs.1.set a (.inr ci, fs.set kf v)) := by
            rw [← ev_w_set w.2.1 a (.inr ci, fs.set kf v)]
            show _ = (ev_w cs ox al hs.1).set a (al.getD a 0, .inr (ci, (fs.set kf v).map (ev_rv ox al)))
            rw [List.map_set]
          refine va_put hx hb hts hin ty0 hty hnm hown hKK w.2.2.1 w.2.2.2.1 w.2.2.2.2.1 a (fs := fs.map (ev_rv ox al)) he hc kf hkf (hts _ hw) (fun x h => h) hfin (hty kf hkf) hf.1 hf.2 (by rw [List.length_map]; exact q3) d (fun H1 locs1 hP1 hD1 hS1 => ?_)
          rw [hset] at hP1 hD1
          exact g3 al H1 locs1 ls ⟨w.1, by rw [List.length_set]; exact w.2.1, hP1, hD1, hS1, ev_wf_set w.2.2.2.2.2 (ev_mem_set (w.2.2.2.2.2 _ (List.mem_of_getElem? hq)) (ev_hd wv))⟩ (by dsimp only; rw [List.length_set]; exact wl) (by dsimp only; rw [List.length_set]; exact ev_tl (ev_tl wv)) hl
theorem ok_putfieldF {C : String} {T : u_T} {N index ci kf : Nat} (d : decode cc pc = .ok (.putfield index, 3)) (hc : cl[ci]? = some (C, T, N)) (hin : ∀ w ∈ u_ws C T N, w ∈ Ts) (hkf : kf < N) {ty : Nat} {ty0 : Nat → FieldType} (hty : ∀ k, k < N → parseFieldDescriptor (T k).2.2.1 = some (ty0 k)) (hnm : ∀ a, a < N → ∀ b, b < N → a ≠ b → (T a).2.1 ≠ (T b).2.1) (htc : ev_tc (ty0 kf) = ty) (hw : Cond.fieldLink own index (T kf).1 (T kf).2.1 (T kf).2.2.1 ∈ Ts) (hfin : (T kf).2.2.2 = true) (hi2 : isI = true) (hdl : (T kf).1 = own) : ev_Ok cc nL hh own Ts Tn Tq cl isI CO pc (a_putf ty ci kf) := by
  intro p l e R s m args below meth c Q D cs ox A al0 k0 n0 call kont f hs o hs' cx hI hC hR hT hpc h hk
  obtain ⟨pc', lo, st⟩ := f
  cases hpc
  obtain ⟨⟨hx, hb, hml, hown, hts⟩, ⟨hKK, hA, hNw, hZU, hZS, hTq, hNc⟩, hEx, hRc, hRs⟩ := cx
  have h : (a_putf ty ci kf) call kont (pc', lo, st) hs = some (o, hs') := h
  match st, h with
  | v :: .ref a :: st, h =>
    unfold a_putf at h
    dsimp only at h
    cases hq : hs.1[a]? with
    | none => rw [hq] at h; cases h
    | some e0 =>
      rw [hq] at h
      obtain ⟨t0, fs⟩ := e0
      cases t0 with
      | inl t => cases h
      | inr cx =>
        dsimp only at h
        cases hb2 : (Nat.beq cx ci && (ev_fit ty v && decide (kf < fs.length))) with
        | false => rw [hb2] at h; cases h
        | true =>
          rw [hb2] at h
          simp only [Bool.and_eq_true, decide_eq_true_eq] at hb2
          obtain ⟨q1, q2, q3⟩ := hb2
          cases Nat.eq_of_beq_eq_true q1
          dsimp only [cond_true] at h
          intro h1 h2
          obtain ⟨g1, g2, g3⟩ := hk _ _ h h1 h2
          refine ⟨g1, g2, fun al H locs ls w wl wv hl => ?_⟩
          have he := ev_w_get (cs := cs) (ox := ox) w.2.1 hq
          have hf := ev_fit_spec ox al (ty0 kf) (v := v) (by rw [htc]; exact q2)
          have hset : (ev_w cs ox al hs.1).set a (al.getD a 0, .inr (ci, (fs.map (ev_rv ox al)).set kf (ev_rv ox al v))) = ev_w cs ox al (hs.1.set a (.inr ci, fs.set kf v)) := by
            rw [← ev_w_set w.2.1 a (.inr ci, fs.set kf v)]
            show _ = (ev_w cs ox al hs.1).set a (al.getD a 0, .inr (ci, (fs.set kf v).map (ev_rv ox al)))
            rw [List.map_set]
          refine va_putF hx hb hts hin ty0 hty hnm hown hKK w.2.2.1 w.2.2.2.1 w.2.2.2.2.1 a (fs := fs.map (ev_rv ox al)) he hc kf hkf (hts _ hw) (fun x h => h) hfin (hI hi2) hdl (hty kf hkf) hf.1 hf.2 (by rw [List.length_map]; exact q3) d (fun H1 locs1 hP1 hD1 hS1 => ?_)
          rw [hset] at hP1 hD1
          exact g3 al H1 locs1 ls ⟨w.1, by rw [List.length_set]; exact w.2.1, hP1, hD1, hS1, ev_wf_set w.2.2.2.2.2 (ev_mem_set (w.2.2.2.2.2 _ (List.mem_of_getElem? hq)) (ev_hd wv))⟩ (by dsimp only; rw [List.length_set]; exact wl) (by dsimp only; rw [List.length_set]; exact ev_tl (ev_tl wv)) hl
theorem ok_putfieldN {C : String} {T : u_T} {N index ci kf : Nat} (d : decode cc pc = .ok (.putfield index, 3)) (hc : cl[ci]? = some (C, T, N)) (hin : ∀ w ∈ u_ws C T N, w ∈ Ts) (hkf : kf < N) {ty : Nat} {ty0 : Nat → FieldType} (hty : ∀ k, k < N → parseFieldDescriptor (T k).2.2.1 = some (ty0 k)) (hnm : ∀ a, a < N → ∀ b, b < N → a ≠ b → (T a).2.1 ≠ (T b).2.1) (htc : ev_tc (ty0 kf) = ty) {host : String} (hw : Cond.fieldLinkNest own index (T kf).1 (T kf).2.1 (T kf).2.2.1 host ∈ Tn) (hfin : (T kf).2.2.2 = false) : ev_Ok cc nL hh own Ts Tn Tq cl isI CO pc (a_putf ty ci kf) := by
  intro p l e R s m args below meth c Q D cs ox A al0 k0 n0 call kont f hs o hs' cx hI hC hR hT hpc h hk
  obtain ⟨pc', lo, st⟩ := f
  cases hpc
  obtain ⟨⟨hx, hb, hml, hown, hts⟩, ⟨hKK, hA, hNw, hZU, hZS, hTq, hNc⟩, hEx, hRc, hRs⟩ := cx
  have h : (a_putf ty ci kf) call kont (pc', lo, st) hs = some (o, hs') := h
  match st, h with
  | v :: .ref a :: st, h =>
    unfold a_putf at h
    dsimp only at h
    cases hq : hs.1[a]? with
    | none => rw [hq] at h; cases h
    | some e0 =>
      rw [hq] at h
      obtain ⟨t0, fs⟩ := e0
      cases t0 with
      | inl t => cases h
      | inr cx =>
        dsimp only at h
        cases hb2 : (Nat.beq cx ci && (ev_fit ty v && decide (kf < fs.length))) with
        | false => rw [hb2] at h; cases h
        | true =>
          rw [hb2] at h
          simp only [Bool.and_eq_true, decide_eq_true_eq] at hb2
          obtain ⟨q1, q2, q3⟩ := hb2
          cases Nat.eq_of_beq_eq_true q1
          dsimp only [cond_true] at h
          intro h1 h2
          obtain ⟨g1, g2, g3⟩ := hk _ _ h h1 h2
          refine ⟨g1, g2, fun al H locs ls w wl wv hl => ?_⟩
          have he := ev_w_get (cs := cs) (ox := ox) w.2.1 hq
          have hf := ev_fit_spec ox al (ty0 kf) (v := v) (by rw [htc]; exact q2)
          have hset : (ev_w cs ox al hs.1).set a (al.getD a 0, .inr (ci, (fs.map (ev_rv ox al)).set kf (ev_rv ox al v))) = ev_w cs ox al (hs.1.set a (.inr ci, fs.set kf v)) := by
            rw [← ev_w_set w.2.1 a (.inr ci, fs.set kf v)]
            show _ = (ev_w cs ox al hs.1).set a (al.getD a 0, .inr (ci, (fs.set kf v).map (ev_rv ox al)))
            rw [List.map_set]
          refine va_putN hx hb hts hin ty0 hty hnm hown hKK w.2.2.1 w.2.2.2.1 w.2.2.2.2.1 a (fs := fs.map (ev_rv ox al)) he hc kf hkf (va_Nw.use rfl (hNw _ hw).2) (fun x h => h) hfin (hty kf hkf) hf.1 hf.2 (by rw [List.length_map]; exact q3) d (fun H1 locs1 hP1 hD1 hS1 => ?_)
          rw [hset] at hP1 hD1
          exact g3 al H1 locs1 ls ⟨w.1, by rw [List.length_set]; exact w.2.1, hP1, hD1, hS1, ev_wf_set w.2.2.2.2.2 (ev_mem_set (w.2.2.2.2.2 _ (List.mem_of_getElem? hq)) (ev_hd wv))⟩ (by dsimp only; rw [List.length_set]; exact wl) (by dsimp only; rw [List.length_set]; exact ev_tl (ev_tl wv)) hl
theorem ok_iaload (d : decode cc pc = .ok (.iaload, 1)) : ev_Ok cc nL hh own Ts Tn Tq cl isI CO pc (a_ild 0) := by
  intro p l e R s m args below meth c Q D cs ox A al0 k0 n0 call kont f hs o hs' cx hI hC hR hT hpc h hk
  obtain ⟨pc', lo, st⟩ := f
  cases hpc
  obtain ⟨⟨hx, hb, hml, hown, hts⟩, ⟨hKK, hA, hNw, hZU, hZS, hTq, hNc⟩, hEx, hRc, hRs⟩ := cx
  have h : (a_ild 0) call kont (pc', lo, st) hs = some (o, hs') := h
  match st, h with
  | .int i :: .ref a :: st, h =>
    unfold a_ild at h
    dsimp only at h
    cases hq : hs.1[a]? with
    | none => rw [hq] at h; cases h
    | some e0 =>
      rw [hq] at h
      obtain ⟨t0, vs⟩ := e0
      cases t0 with
      | inr cx => cases h
      | inl t =>
        dsimp only at h
        cases hb2 : Nat.beq t 0 with
        | false => rw [hb2] at h; cases h
        | true =>
          rw [hb2] at h
          cases Nat.eq_of_beq_eq_true hb2
          dsimp only [cond_true] at h
          cases hv : ev_at vs i with
          | none => rw [hv] at h; cases h
          | some v =>
            rw [hv] at h
            cases v with
            | int x =>
              dsimp only at h
              obtain ⟨n1, n2⟩ := ev_at_spec hv
              intro h1 h2
              obtain ⟨g1, g2, g3⟩ := hk _ _ h h1 h2
              refine ⟨g1, g2, fun al H locs ls w wl wv hl => ?_⟩
              have he := ev_w_get (cs := cs) (ox := ox) w.2.1 hq
              have k3 := g3 al H locs ls w wl (ev_allc trivial (ev_tl (ev_tl wv))) hl
              refine va_iald hx hb hKK w.2.2.1 a 0 (n := vs.length) (f := fun j => ev_i (vs.getD j (.int 0))) he rfl n1 d ?_
              have hx2 : ev_i (vs.getD i.toNatClampNeg (.int 0)) = x := by rw [List.getD_eq_getElem?_getD, n2]; rfl
              show W p l e R s m args below meth c H locs _ _ Q (F0 m _ ls (.int (ev_i (vs.getD i.toNatClampNeg (.int 0))) :: _))
              rw [hx2]
              exact k3
            | _ => cases h
theorem ok_zaload (d : decode cc pc = .ok (.baload, 1)) : ev_Ok cc nL hh own Ts Tn Tq cl isI CO pc (a_ild 1) := by
  intro p l e R s m args below meth c Q D cs ox A al0 k0 n0 call kont f hs o hs' cx hI hC hR hT hpc h hk
  obtain ⟨pc', lo, st⟩ := f
  cases hpc
  obtain ⟨⟨hx, hb, hml, hown, hts⟩, ⟨hKK, hA, hNw, hZU, hZS, hTq, hNc⟩, hEx, hRc, hRs⟩ := cx
  have h : (a_ild 1) call kont (pc', lo, st) hs = some (o, hs') := h
  match st, h with
  | .int i :: .ref a :: st, h =>
    unfold a_ild at h
    dsimp only at h
    cases hq : hs.1[a]? with
    | none => rw [hq] at h; cases h
    | some e0 =>
      rw [hq] at h
      obtain ⟨t0, vs⟩ := e0
      cases t0 with
      | inr cx => cases h
      | inl t =>
        dsimp only at h
        cases hb2 : Nat.beq t 1 with
        | false => rw [hb2] at h; cases h
        | true =>
          rw [hb2] at h
          cases Nat.eq_of_beq_eq_true hb2
          dsimp only [cond_true] at h
          cases hv : ev_at vs i with
          | none => rw [hv] at h; cases h
          | some v =>
            rw [hv] at h
            cases v with
            | int x =>
              dsimp only at h
              obtain ⟨n1, n2⟩ := ev_at_spec hv
              intro h1 h2
              obtain ⟨g1, g2, g3⟩ := hk _ _ h h1 h2
              refine ⟨g1, g2, fun al H locs ls w wl wv hl => ?_⟩
              have he := ev_w_get (cs := cs) (ox := ox) w.2.1 hq
              have k3 := g3 al H locs ls w wl (ev_allc trivial (ev_tl (ev_tl wv))) hl
              refine va_zald hx hb hKK w.2.2.1 a 1 (n := vs.length) (f := fun j => ev_i (vs.getD j (.int 0))) he rfl n1 d ?_
              have hx2 : ev_i (vs.getD i.toNatClampNeg (.int 0)) = x := by rw [List.getD_eq_getElem?_getD, n2]; rfl
              show W p l e R s m args below meth c H locs _ _ Q (F0 m _ ls (.int (ev_i (vs.getD i.toNatClampNeg (.int 0))) :: _))
              rw [hx2]
              exact k3
            | _ => cases h
theorem ok_laload (d : decode cc pc = .ok (.laload, 1)) : ev_Ok cc nL hh own Ts Tn Tq cl isI CO pc a_lld := by
  intro p l e R s m args below meth c Q D cs ox A al0 k0 n0 call kont f hs o hs' cx hI hC hR hT hpc h hk
  obtain ⟨pc', lo, st⟩ := f
  cases hpc
  obtain ⟨⟨hx, hb, hml, hown, hts⟩, ⟨hKK, hA, hNw, hZU, hZS, hTq, hNc⟩, hEx, hRc, hRs⟩ := cx
  have h : a_lld call kont (pc', lo, st) hs = some (o, hs') := h
  match st, h with
  | .int i :: .ref a :: st, h =>
    unfold a_lld at h
    dsimp only at h
    cases hq : hs.1[a]? with
    | none => rw [hq] at h; cases h
    | some e0 =>
      rw [hq] at h
      obtain ⟨t0, vs⟩ := e0
      cases t0 with
      | inr cx => cases h
      | inl t =>
        dsimp only at h
        cases hb2 : Nat.beq t 2 with
        | false => rw [hb2] at h; cases h
        | true =>
          rw [hb2] at h
          cases Nat.eq_of_beq_eq_true hb2
          dsimp only [cond_true] at h
          cases hv : ev_at vs i with
          | none => rw [hv] at h; cases h
          | some v =>
            rw [hv] at h
            cases v with
            | long x =>
              dsimp only at h
              obtain ⟨n1, n2⟩ := ev_at_spec hv
              intro h1 h2
              obtain ⟨g1, g2, g3⟩ := hk _ _ h h1 h2
              refine ⟨g1, g2, fun al H locs ls w wl wv hl => ?_⟩
              have he := ev_w_get (cs := cs) (ox := ox) w.2.1 hq
              have k3 := g3 al H locs ls w wl (ev_allc trivial (ev_tl (ev_tl wv))) hl
              refine va_lald hx hb hKK w.2.2.1 a 2 (n := vs.length) (f := fun j => ev_l (vs.getD j (.long 0))) he rfl n1 d ?_
              have hx2 : ev_l (vs.getD i.toNatClampNeg (.long 0)) = x := by rw [List.getD_eq_getElem?_getD, n2]; rfl
              show W p l e R s m args below meth c H locs _ _ Q (F0 m _ ls (.long (ev_l (vs.getD i.toNatClampNeg (.long 0))) :: _))
              rw [hx2]
              exact k3
            | _ => cases h
theorem ok_iastore (d : decode cc pc = .ok (.iastore, 1)) : ev_Ok cc nL hh own Ts Tn Tq cl isI CO pc (a_ist 0) := by
  intro p l e R s m args below meth c Q D cs ox A al0 k0 n0 call kont f hs o hs' cx hI hC hR hT hpc h hk
  obtain ⟨pc', lo, st⟩ := f
  cases hpc
  obtain ⟨⟨hx, hb, hml, hown, hts⟩, ⟨hKK, hA, hNw, hZU, hZS, hTq, hNc⟩, hEx, hRc, hRs⟩ := cx
  have h : (a_ist 0) call kont (pc', lo, st) hs = some (o, hs') := h
  match st, h with
  | .int x :: .int i :: .ref a :: st, h =>
    unfold a_ist at h
    dsimp only at h
    cases hq : hs.1[a]? with
    | none => rw [hq] at h; cases h
    | some e0 =>
      rw [hq] at h
      obtain ⟨t0, vs⟩ := e0
      cases t0 with
      | inr cx => cases h
      | inl t =>
        dsimp only at h
        cases hb2 : (Nat.beq t 0 && ev_fit 0 (.int x)) with
        | false => rw [hb2] at h; cases h
        | true =>
          rw [hb2] at h
          obtain ⟨q1, q2⟩ := Bool.and_eq_true_iff.mp hb2
          cases Nat.eq_of_beq_eq_true q1
          dsimp only [cond_true] at h
          cases hv : ev_at vs i with
          | none => rw [hv] at h; cases h
          | some v =>
            rw [hv] at h
            dsimp only at h
            obtain ⟨n1, n2⟩ := ev_at_spec hv
            intro h1 h2
            obtain ⟨g1, g2, g3⟩ := hk _ _ h h1 h2
            refine ⟨g1, g2, fun al H locs ls w wl wv hl => ?_⟩
            have he := ev_w_get (cs := cs) (ox := ox) w.2.1 hq
            have hset : (ev_w cs ox al hs.1).set a (al.getD a 0, .inl (cs 0, vs.length, .inl (upd (fun j => ev_i (vs.getD j (.int 0))) i.toNatClampNeg x))) = ev_w cs ox al (hs.1.set a (.inl 0, vs.set i.toNatClampNeg (.int x))) := by
              rw [← ev_w_set w.2.1 a (.inl 0, vs.set i.toNatClampNeg (.int x))]
              rw [ev_upd vs i.toNatClampNeg x (List.getElem?_eq_some_iff.mp n2).1]
              show _ = (ev_w cs ox al hs.1).set a (al.getD a 0, .inl (cs 0, ((vs.set i.toNatClampNeg (.int x)).length, _)))
              rw [List.length_set]
              rfl
            refine va_iast hx hb hKK w.2.2.1 w.2.2.2.1 w.2.2.2.2.1 a 0 (n := vs.length) (f := fun j => ev_i (vs.getD j (.int 0))) he rfl n1 d (fun H1 locs1 hP1 hD1 hS1 => ?_)
            rw [hset] at hP1 hD1
            exact g3 al H1 locs1 ls ⟨w.1, by rw [List.length_set]; exact w.2.1, hP1, hD1, hS1, ev_wf_set w.2.2.2.2.2 (ev_mem_set (w.2.2.2.2.2 _ (List.mem_of_getElem? hq)) (ev_hd wv))⟩ (by dsimp only; rw [List.length_set]; exact wl) (by dsimp only; rw [List.length_set]; exact ev_tl (ev_tl (ev_tl wv))) hl
theorem ok_zastore (d : decode cc pc = .ok (.bastore, 1)) : ev_Ok cc nL hh own Ts Tn Tq cl isI CO pc (a_ist 1) := by
  intro p l e R s m args below meth c Q D cs ox A al0 k0 n0 call kont f hs o hs' cx hI hC hR hT hpc h hk
  obtain ⟨pc', lo, st⟩ := f
  cases hpc
  obtain ⟨⟨hx, hb, hml, hown, hts⟩, ⟨hKK, hA, hNw, hZU, hZS, hTq, hNc⟩, hEx, hRc, hRs⟩ := cx
  have h : (a_ist 1) call kont (pc', lo, st) hs = some (o, hs') := h
  match st, h with
  | .int x :: .int i :: .ref a :: st, h =>
    unfold a_ist at h
    dsimp only at h
    cases hq : hs.1[a]? with
    | none => rw [hq] at h; cases h
    | some e0 =>
      rw [hq] at h
      obtain ⟨t0, vs⟩ := e0
      cases t0 with
      | inr cx => cases h
      | inl t =>
        dsimp only at h
        cases hb2 : (Nat.beq t 1 && ev_fit 1 (.int x)) with
        | false => rw [hb2] at h; cases h
        | true =>
          rw [hb2] at h
          obtain ⟨q1, q2⟩ := Bool.and_eq_true_iff.mp hb2
          cases Nat.eq_of_beq_eq_true q1
          dsimp only [cond_true] at h
          cases hv : ev_at vs i with
          | none => rw [hv] at h; cases h
          | some v =>
            rw [hv] at h
            dsimp only at h
            obtain ⟨n1, n2⟩ := ev_at_spec hv
            intro h1 h2
            obtain ⟨g1, g2, g3⟩ := hk _ _ h h1 h2
            refine ⟨g1, g2, fun al H locs ls w wl wv hl => ?_⟩
            have he := ev_w_get (cs := cs) (ox := ox) w.2.1 hq
            have hset : (ev_w cs ox al hs.1).set a (al.getD a 0, .inl (cs 1, vs.length, .inl (upd (fun j => ev_i (vs.getD j (.int 0))) i.toNatClampNeg (vp_nar .boolean x)))) = ev_w cs ox al (hs.1.set a (.inl 1, vs.set i.toNatClampNeg (.int x))) := by
              rw [← ev_w_set w.2.1 a (.inl 1, vs.set i.toNatClampNeg (.int x))]
              rw [ev_nar q2, ev_upd vs i.toNatClampNeg x (List.getElem?_eq_some_iff.mp n2).1]
              show _ = (ev_w cs ox al hs.1).set a (al.getD a 0, .inl (cs 1, ((vs.set i.toNatClampNeg (.int x)).length, _)))
              rw [List.length_set]
              rfl
            refine va_zast hx hb hKK w.2.2.1 w.2.2.2.1 w.2.2.2.2.1 a 1 (n := vs.length) (f := fun j => ev_i (vs.getD j (.int 0))) he rfl n1 d (fun H1 locs1 hP1 hD1 hS1 => ?_)
            rw [hset] at hP1 hD1
            exact g3 al H1 locs1 ls ⟨w.1, by rw [List.length_set]; exact w.2.1, hP1, hD1, hS1, ev_wf_set w.2.2.2.2.2 (ev_mem_set (w.2.2.2.2.2 _ (List.mem_of_getElem? hq)) (ev_hd wv))⟩ (by dsimp only; rw [List.length_set]; exact wl) (by dsimp only; rw [List.length_set]; exact ev_tl (ev_tl (ev_tl wv))) hl
theorem ok_lastore (d : decode cc pc = .ok (.lastore, 1)) : ev_Ok cc nL hh own Ts Tn Tq cl isI CO pc a_lst := by
  intro p l e R s m args below meth c Q D cs ox A al0 k0 n0 call kont f hs o hs' cx hI hC hR hT hpc h hk
  obtain ⟨pc', lo, st⟩ := f
  cases hpc
  obtain ⟨⟨hx, hb, hml, hown, hts⟩, ⟨hKK, hA, hNw, hZU, hZS, hTq, hNc⟩, hEx, hRc, hRs⟩ := cx
  have h : a_lst call kont (pc', lo, st) hs = some (o, hs') := h
  match st, h with
  | .long x :: .int i :: .ref a :: st, h =>
    unfold a_lst at h
    dsimp only at h
    cases hq : hs.1[a]? with
    | none => rw [hq] at h; cases h
    | some e0 =>
      rw [hq] at h
      obtain ⟨t0, vs⟩ := e0
      cases t0 with
      | inr cx => cases h
      | inl t =>
        dsimp only at h
        cases hb2 : Nat.beq t 2 with
        | false => rw [hb2] at h; cases h
        | true =>
          rw [hb2] at h
          have q1 : Nat.beq t 2 = true := hb2
          cases Nat.eq_of_beq_eq_true q1
          dsimp only [cond_true] at h
          cases hv : ev_at vs i with
          | none => rw [hv] at h; cases h
          | some v =>
            rw [hv] at h
            dsimp only at h
            obtain ⟨n1, n2⟩ := ev_at_spec hv
            intro h1 h2
            obtain ⟨g1, g2, g3⟩ := hk _ _ h h1 h2
            refine ⟨g1, g2, fun al H locs ls w wl wv hl => ?_⟩
            have he := ev_w_get (cs := cs) (ox := ox) w.2.1 hq
            have hset : (ev_w cs ox al hs.1).set a (al.getD a 0, .inl (cs 2, vs.length, .inr (.inl (vp_updL (fun j => ev_l (vs.getD j (.long 0))) i.toNatClampNeg x)))) = ev_w cs ox al (hs.1.set a (.inl 2, vs.set i.toNatClampNeg (.long x))) := by
              rw [← ev_w_set w.2.1 a (.inl 2, vs.set i.toNatClampNeg (.long x))]
              rw [ev_updL vs i.toNatClampNeg x (List.getElem?_eq_some_iff.mp n2).1]
              show _ = (ev_w cs ox al hs.1).set a (al.getD a 0, .inl (cs 2, ((vs.set i.toNatClampNeg (.long x)).length, _)))
              rw [List.length_set]
              rfl
            refine va_last hx hb hKK w.2.2.1 w.2.2.2.1 w.2.2.2.2.1 a 2 (n := vs.length) (f := fun j => ev_l (vs.getD j (.long 0))) he rfl n1 d (fun H1 locs1 hP1 hD1 hS1 => ?_)
            rw [hset] at hP1 hD1
            exact g3 al H1 locs1 ls ⟨w.1, by rw [List.length_set]; exact w.2.1, hP1, hD1, hS1, ev_wf_set w.2.2.2.2.2 (ev_mem_set (w.2.2.2.2.2 _ (List.mem_of_getElem? hq)) (ev_hd wv))⟩ (by dsimp only; rw [List.length_set]; exact wl) (by dsimp only; rw [List.length_set]; exact ev_tl (ev_tl (ev_tl wv))) hl
theorem ok_arraylength (d : decode cc pc = .ok (.arraylength, 1)) : ev_Ok cc nL hh own Ts Tn Tq cl isI CO pc a_alen := by
  intro p l e R s m args below meth c Q D cs ox A al0 k0 n0 call kont f hs o hs' cx hI hC hR hT hpc h hk
  obtain ⟨pc', lo, st⟩ := f
  cases hpc
  obtain ⟨⟨hx, hb, hml, hown, hts⟩, ⟨hKK, hA, hNw, hZU, hZS, hTq, hNc⟩, hEx, hRc, hRs⟩ := cx
  have h : a_alen call kont (pc', lo, st) hs = some (o, hs') := h
  match st, h with
  | .ref a :: st, h =>
    unfold a_alen at h
    dsimp only at h
    cases hq : hs.1[a]? with
    | none => rw [hq] at h; cases h
    | some e0 =>
      rw [hq] at h
      obtain ⟨t0, vs⟩ := e0
      cases t0 with
      | inr cx => cases h
      | inl t =>
        dsimp only at h
        cases hb2 : Nat.ble t 2 with
        | false => rw [hb2] at h; cases h
        | true =>
          rw [hb2] at h
          dsimp only [cond_true] at h
          have q1 : t ≤ 2 := Nat.le_of_ble_eq_true hb2
          intro h1 h2
          obtain ⟨g1, g2, g3⟩ := hk _ _ h h1 h2
          refine ⟨g1, g2, fun al H locs ls w wl wv hl => ?_⟩
          have he := ev_w_get (cs := cs) (ox := ox) w.2.1 hq
          have ht : (ev_tys cs)[t]? = some (cs t, ev_ty t) := by rcases (show t = 0 ∨ t = 1 ∨ t = 2 by omega) with rfl | rfl | rfl <;> rfl
          exact va_alen hx hb hKK w.2.2.1 a t he ht rfl d (g3 al H locs ls w wl (ev_allc trivial (ev_tl wv)) hl)
theorem ok_new {C : String} {T : u_T} {N index ci : Nat} {fs : List Value} (d : decode cc pc = .ok (.new index, 3)) (hc : cl[ci]? = some (C, T, N)) (hin : ∀ w ∈ u_ws C T N, w ∈ Ts) (ty : Nat → FieldType) (hty : ∀ k, k < N → parseFieldDescriptor (T k).2.2.1 = some (ty k)) (hw1 : Cond.classLink own index C ∈ Ts) (hw2 : Cond.instantiable C N ∈ Ts) (hw3 : Cond.initialized C ∈ Ts) (hfs : ∀ j, j < N → defaultValue (ty j) = vp_V fs j) (hcon : fs.all (fun v => match v with | .ref _ => false | .float _ => false | _ => true) = true) : ev_Ok cc nL hh own Ts Tn Tq cl isI CO pc (a_new ci N fs) := by
  intro p l e R s m args below meth c Q D cs ox A al0 k0 n0 call kont f hs o hs' cx hI hC hR hT hpc h hk
  obtain ⟨pc', lo, st⟩ := f
  cases hpc
  obtain ⟨⟨hx, hb, hml, hown, hts⟩, ⟨hKK, hA, hNw, hZU, hZS, hTq, hNc⟩, hEx, hRc, hRs⟩ := cx
  have h : (a_new ci N fs) call kont (pc', lo, st) hs = some (o, hs') := h
  have hcl : ∀ v ∈ fs, ev_ok 0 v ∧ ∀ (ox : Nat → Nat) (al : List Nat), ev_rv ox al v = v := by
    intro v hv
    have h3 := List.all_eq_true.mp hcon v hv
    cases v with
    | ref a => cases h3
    | float a => cases h3
    | _ => exact ⟨trivial, fun _ _ => rfl⟩
  have h : kont (pc' + 3, lo, .ref hs.1.length :: st) (hs.1 ++ [(.inr ci, fs)], hs.2.1 + 1, hs.2.2 + N) = some (o, hs') := h
  intro h1 h2
  obtain ⟨g1, g2, g3⟩ := hk _ _ h (Nat.le_succ_of_le h1) (Nat.le_add_right_of_le h2)
  dsimp only at g1 g2 g3
  refine ⟨Nat.le_of_succ_le g1, Nat.le_trans (Nat.le_add_right _ _) g2, fun al H locs ls w wl wv hl => ?_⟩
  refine va_new (fs := fs) hx hb hts hin ty hty hown (hts _ hw1) (hts _ hw2) (hts _ hw3) hKK w.2.2.1 w.2.2.2.1 w.2.2.2.2.1 hA hc hfs (by omega) (by omega) d (fun q H1 hP1 hD1 hS1 => ?_)
  have hwp : ev_w cs ox al hs.1 ++ [(q, .inr (ci, fs))] = ev_w cs ox (al ++ [q]) (hs.1 ++ [(.inr ci, fs)]) := by
    rw [← ev_w_push w.2.1 w.2.2.2.2.2 q (e := (.inr ci, fs)) (fun v hv => ev_ok_mono (Nat.zero_le _) (hcl v hv).1)]
    show _ = ev_w cs ox al hs.1 ++ [(q, .inr (ci, fs.map (ev_rv ox al)))]
    rw [List.map_congr_left (fun v hv => (hcl v hv).2 ox al), List.map_id']
  rw [hwp] at hP1 hD1
  have k3 := g3 (al ++ [q]) H1 locs ls ⟨List.IsPrefix.trans w.1 (List.prefix_append _ _), by rw [List.length_append, List.length_append, w.2.1]; rfl, hP1, hD1, hS1, ev_wf_push w.2.2.2.2.2 (fun v hv => ev_ok_mono (Nat.zero_le _) (hcl v hv).1)⟩ (fun q hq => ev_ok_mono (by rw [List.length_append]; exact Nat.le_add_right _ _) (wl q hq)) (ev_allc (show hs.1.length < _ by rw [List.length_append]; exact Nat.lt_succ_self _) (fun v hv => ev_ok_mono (by rw [List.length_append]; exact Nat.le_add_right _ _) (wv v hv))) (by rw [ev_loc_app w.2.1 wl]; exact hl)
  rw [show hs.2.1 + 1 - k0 = hs.2.1 - k0 + 1 by omega, show hs.2.2 + N - n0 = hs.2.2 - n0 + N by omega, List.map_cons, ev_stk_app w.2.1 wv] at k3
  rw [show ev_rv ox (al ++ [q]) (.ref hs.1.length) = .ref q from ev_rv_new ox w.2.1 q] at k3
  exact k3
theorem ok_newint (d : decode cc pc = .ok (.newarray .int, 2)) (hw : Cond.arrayClass .int ∈ Ts) : ev_Ok cc nL hh own Ts Tn Tq cl isI CO pc (a_newa 0) := by
  intro p l e R s m args below meth c Q D cs ox A al0 k0 n0 call kont f hs o hs' cx hI hC hR hT hpc h hk
  obtain ⟨pc', lo, st⟩ := f
  cases hpc
  obtain ⟨⟨hx, hb, hml, hown, hts⟩, ⟨hKK, hA, hNw, hZU, hZS, hTq, hNc⟩, hEx, hRc, hRs⟩ := cx
  have h : (a_newa 0) call kont (pc', lo, st) hs = some (o, hs') := h
  match st, h with
  | .int n :: st, h =>
    have h : (if n < 0 then none else bif Nat.ble (n.toNatClampNeg * 8) 536870912 then kont (pc' + 2, lo, .ref hs.1.length :: st) (hs.1 ++ [(.inl 0, List.replicate n.toNatClampNeg (ev_dv 0))], hs.2.1 + 1, hs.2.2 + n.toNatClampNeg) else none) = some (o, hs') := h
    by_cases hn : n < 0
    · rw [if_pos hn] at h; cases h
    · rw [if_neg hn] at h
      cases hb2 : Nat.ble (n.toNatClampNeg * 8) 536870912 with
      | false => rw [hb2] at h; cases h
      | true =>
        rw [hb2] at h
        dsimp only [cond_true] at h
        have hby : n.toNatClampNeg * 8 ≤ 536870912 := Nat.le_of_ble_eq_true hb2
        intro h1 h2
        obtain ⟨g1, g2, g3⟩ := hk _ _ h (Nat.le_succ_of_le h1) (Nat.le_add_right_of_le h2)
        dsimp only at g1 g2 g3
        refine ⟨Nat.le_of_succ_le g1, Nat.le_trans (Nat.le_add_right _ _) g2, fun al H locs ls w wl wv hl => ?_⟩
        refine va_newa (atype := .int) (ty := .int) (N' := n.toNatClampNeg) (a0 := ev_arr 0 (List.replicate n.toNatClampNeg (ev_dv 0))) hx hb (hts _ hw) rfl hKK w.2.2.1 w.2.2.2.1 w.2.2.2.2.1 hA (fun cA => ?_) hn rfl (show n.toNatClampNeg * 4 ≤ 536870912 by omega) (by omega) (by omega) d (fun q cA H1 hK1 hP1 hD1 hS1 => ?_)
        · exact ev_arr_new 0 n.toNatClampNeg cA
        · have hcA : cA = cs 0 := by
            have h5 := (hK1.2 3 (cA, .int) rfl).2
            have h6 := (hKK.2 0 (cs 0, .int) rfl).2
            exact Option.some.inj (h5.symm.trans h6)
          subst hcA
          have hwp : ev_w cs ox al hs.1 ++ [(q, .inl (cs 0, ev_arr 0 (List.replicate n.toNatClampNeg (ev_dv 0))))] = ev_w cs ox (al ++ [q]) (hs.1 ++ [(.inl 0, List.replicate n.toNatClampNeg (ev_dv 0))]) :=
            ev_w_push w.2.1 w.2.2.2.2.2 q (e := (.inl 0, List.replicate n.toNatClampNeg (ev_dv 0))) (fun v hv => by rw [List.eq_of_mem_replicate hv]; trivial)
          rw [hwp] at hP1 hD1
          have k3 := g3 (al ++ [q]) H1 locs ls ⟨List.IsPrefix.trans w.1 (List.prefix_append _ _), by rw [List.length_append, List.length_append, w.2.1]; rfl, hP1, hD1, hS1, ev_wf_push w.2.2.2.2.2 (fun v hv => by rw [List.eq_of_mem_replicate hv]; trivial)⟩ (fun q hq => ev_ok_mono (by rw [List.length_append]; exact Nat.le_add_right _ _) (wl q hq)) (ev_allc (show hs.1.length < _ by rw [List.length_append]; exact Nat.lt_succ_self _) (fun v hv => ev_ok_mono (by rw [List.length_append]; exact Nat.le_add_right _ _) (ev_tl wv v hv))) (by rw [ev_loc_app w.2.1 wl]; exact hl)
          rw [show hs.2.1 + 1 - k0 = hs.2.1 - k0 + 1 by omega, show hs.2.2 + n.toNatClampNeg - n0 = hs.2.2 - n0 + n.toNatClampNeg by omega, List.map_cons, ev_stk_app w.2.1 (ev_tl wv)] at k3
          rw [show ev_rv ox (al ++ [q]) (.ref hs.1.length) = .ref q from ev_rv_new ox w.2.1 q] at k3
          exact k3
theorem ok_newboolean (d : decode cc pc = .ok (.newarray .boolean, 2)) (hw : Cond.arrayClass .boolean ∈ Ts) : ev_Ok cc nL hh own Ts Tn Tq cl isI CO pc (a_newa 1) := by
  intro p l e R s m args below meth c Q D cs ox A al0 k0 n0 call kont f hs o hs' cx hI hC hR hT hpc h hk
  obtain ⟨pc', lo, st⟩ := f
  cases hpc
  obtain ⟨⟨hx, hb, hml, hown, hts⟩, ⟨hKK, hA, hNw, hZU, hZS, hTq, hNc⟩, hEx, hRc, hRs⟩ := cx
  have h : (a_newa 1) call kont (pc', lo, st) hs = some (o, hs') := h
  match st, h with
  | .int n :: st, h =>
    have h : (if n < 0 then none else bif Nat.ble (n.toNatClampNeg * 8) 536870912 then kont (pc' + 2, lo, .ref hs.1.length :: st) (hs.1 ++ [(.inl 1, List.replicate n.toNatClampNeg (ev_dv 1))], hs.2.1 + 1, hs.2.2 + n.toNatClampNeg) else none) = some (o, hs') := h
    by_cases hn : n < 0
    · rw [if_pos hn] at h; cases h
    · rw [if_neg hn] at h
      cases hb2 : Nat.ble (n.toNatClampNeg * 8) 536870912 with
      | false => rw [hb2] at h; cases h
      | true =>
        rw [hb2] at h
        dsimp only [cond_true] at h
        have hby : n.toNatClampNeg * 8 ≤ 536870912 := Nat.le_of_ble_eq_true hb2
        intro h1 h2
        obtain ⟨g1, g2, g3⟩ := hk _ _ h (Nat.le_succ_of_le h1) (Nat.le_add_right_of_le h2)
        dsimp only at g1 g2 g3
        refine ⟨Nat.le_of_succ_le g1, Nat.le_trans (Nat.le_add_right _ _) g2, fun al H locs ls w wl wv hl => ?_⟩
        refine va_newa (atype := .boolean) (ty := .boolean) (N' := n.toNatClampNeg) (a0 := ev_arr 1 (List.replicate n.toNatClampNeg (ev_dv 1))) hx hb (hts _ hw) rfl hKK w.2.2.1 w.2.2.2.1 w.2.2.2.2.1 hA (fun cA => ?_) hn rfl (show n.toNatClampNeg * 1 ≤ 536870912 by omega) (by omega) (by omega) d (fun q cA H1 hK1 hP1 hD1 hS1 => ?_)
        · exact ev_arr_new 1 n.toNatClampNeg cA
        · have hcA : cA = cs 1 := by
            have h5 := (hK1.2 3 (cA, .boolean) rfl).2
            have h6 := (hKK.2 1 (cs 1, .boolean) rfl).2
            exact Option.some.inj (h5.symm.trans h6)
          subst hcA
          have hwp : ev_w cs ox al hs.1 ++ [(q, .inl (cs 1, ev_arr 1 (List.replicate n.toNatClampNeg (ev_dv 1))))] = ev_w cs ox (al ++ [q]) (hs.1 ++ [(.inl 1, List.replicate n.toNatClampNeg (ev_dv 1))]) :=
            ev_w_push w.2.1 w.2.2.2.2.2 q (e := (.inl 1, List.replicate n.toNatClampNeg (ev_dv 1))) (fun v hv => by rw [List.eq_of_mem_replicate hv]; trivial)
          rw [hwp] at hP1 hD1
          have k3 := g3 (al ++ [q]) H1 locs ls ⟨List.IsPrefix.trans w.1 (List.prefix_append _ _), by rw [List.length_append, List.length_append, w.2.1]; rfl, hP1, hD1, hS1, ev_wf_push w.2.2.2.2.2 (fun v hv => by rw [List.eq_of_mem_replicate hv]; trivial)⟩ (fun q hq => ev_ok_mono (by rw [List.length_append]; exact Nat.le_add_right _ _) (wl q hq)) (ev_allc (show hs.1.length < _ by rw [List.length_append]; exact Nat.lt_succ_self _) (fun v hv => ev_ok_mono (by rw [List.length_append]; exact Nat.le_add_right _ _) (ev_tl wv v hv))) (by rw [ev_loc_app w.2.1 wl]; exact hl)
          rw [show hs.2.1 + 1 - k0 = hs.2.1 - k0 + 1 by omega, show hs.2.2 + n.toNatClampNeg - n0 = hs.2.2 - n0 + n.toNatClampNeg by omega, List.map_cons, ev_stk_app w.2.1 (ev_tl wv)] at k3
          rw [show ev_rv ox (al ++ [q]) (.ref hs.1.length) = .ref q from ev_rv_new ox w.2.1 q] at k3
          exact k3
theorem ok_newlong (d : decode cc pc = .ok (.newarray .long, 2)) (hw : Cond.arrayClass .long ∈ Ts) : ev_Ok cc nL hh own Ts Tn Tq cl isI CO pc (a_newa 2) := by
  intro p l e R s m args below meth c Q D cs ox A al0 k0 n0 call kont f hs o hs' cx hI hC hR hT hpc h hk
  obtain ⟨pc', lo, st⟩ := f
  cases hpc
  obtain ⟨⟨hx, hb, hml, hown, hts⟩, ⟨hKK, hA, hNw, hZU, hZS, hTq, hNc⟩, hEx, hRc, hRs⟩ := cx
  have h : (a_newa 2) call kont (pc', lo, st) hs = some (o, hs') := h
  match st, h with
  | .int n :: st, h =>
    have h : (if n < 0 then none else bif Nat.ble (n.toNatClampNeg * 8) 536870912 then kont (pc' + 2, lo, .ref hs.1.length :: st) (hs.1 ++ [(.inl 2, List.replicate n.toNatClampNeg (ev_dv 2))], hs.2.1 + 1, hs.2.2 + n.toNatClampNeg) else none) = some (o, hs') := h
    by_cases hn : n < 0
    · rw [if_pos hn] at h; cases h
    · rw [if_neg hn] at h
      cases hb2 : Nat.ble (n.toNatClampNeg * 8) 536870912 with
      | false => rw [hb2] at h; cases h
      | true =>
        rw [hb2] at h
        dsimp only [cond_true] at h
        have hby : n.toNatClampNeg * 8 ≤ 536870912 := Nat.le_of_ble_eq_true hb2
        intro h1 h2
        obtain ⟨g1, g2, g3⟩ := hk _ _ h (Nat.le_succ_of_le h1) (Nat.le_add_right_of_le h2)
        dsimp only at g1 g2 g3
        refine ⟨Nat.le_of_succ_le g1, Nat.le_trans (Nat.le_add_right _ _) g2, fun al H locs ls w wl wv hl => ?_⟩
        refine va_newa (atype := .long) (ty := .long) (N' := n.toNatClampNeg) (a0 := ev_arr 2 (List.replicate n.toNatClampNeg (ev_dv 2))) hx hb (hts _ hw) rfl hKK w.2.2.1 w.2.2.2.1 w.2.2.2.2.1 hA (fun cA => ?_) hn rfl (show n.toNatClampNeg * 8 ≤ 536870912 by omega) (by omega) (by omega) d (fun q cA H1 hK1 hP1 hD1 hS1 => ?_)
        · exact ev_arr_new 2 n.toNatClampNeg cA
        · have hcA : cA = cs 2 := by
            have h5 := (hK1.2 3 (cA, .long) rfl).2
            have h6 := (hKK.2 2 (cs 2, .long) rfl).2
            exact Option.some.inj (h5.symm.trans h6)
          subst hcA
          have hwp : ev_w cs ox al hs.1 ++ [(q, .inl (cs 2, ev_arr 2 (List.replicate n.toNatClampNeg (ev_dv 2))))] = ev_w cs ox (al ++ [q]) (hs.1 ++ [(.inl 2, List.replicate n.toNatClampNeg (ev_dv 2))]) :=
            ev_w_push w.2.1 w.2.2.2.2.2 q (e := (.inl 2, List.replicate n.toNatClampNeg (ev_dv 2))) (fun v hv => by rw [List.eq_of_mem_replicate hv]; trivial)
          rw [hwp] at hP1 hD1
          have k3 := g3 (al ++ [q]) H1 locs ls ⟨List.IsPrefix.trans w.1 (List.prefix_append _ _), by rw [List.length_append, List.length_append, w.2.1]; rfl, hP1, hD1, hS1, ev_wf_push w.2.2.2.2.2 (fun v hv => by rw [List.eq_of_mem_replicate hv]; trivial)⟩ (fun q hq => ev_ok_mono (by rw [List.length_append]; exact Nat.le_add_right _ _) (wl q hq)) (ev_allc (show hs.1.length < _ by rw [List.length_append]; exact Nat.lt_succ_self _) (fun v hv => ev_ok_mono (by rw [List.length_append]; exact Nat.le_add_right _ _) (ev_tl wv v hv))) (by rw [ev_loc_app w.2.1 wl]; exact hl)
          rw [show hs.2.1 + 1 - k0 = hs.2.1 - k0 + 1 by omega, show hs.2.2 + n.toNatClampNeg - n0 = hs.2.2 - n0 + n.toNatClampNeg by omega, List.map_cons, ev_stk_app w.2.1 (ev_tl wv)] at k3
          rw [show ev_rv ox (al ++ [q]) (.ref hs.1.length) = .ref q from ev_rv_new ox w.2.1 q] at k3
          exact k3
theorem ok_objinit {index : Nat} (d : decode cc pc = .ok (.invokespecial index, 3)) (hw1 : Cond.methodLink own index objectInit ∈ Ts) (hw2 : Cond.instanceMethod objectInit ∈ Ts) (hw3 : Cond.code objectInit ⟨#[0xb1]⟩ 1 none ∈ Ts) (hR1 : ∀ (l : Launch) (R : Room) (cs : Nat → ClassId) (D : va_G) (ox : Nat → Nat) (A : Nat → Prop) (call : ECall), CO l R cs D ox A call → 1 ≤ R.frames ∧ 20 ≤ R.locals) : ev_Ok cc nL hh own Ts Tn Tq cl isI CO pc a_objI := by
  intro p l e R s m args below meth c Q D cs ox A al0 k0 n0 call kont f hs o hs' cx hI hC hR hT hpc h hk
  obtain ⟨pc', lo, st⟩ := f
  cases hpc
  obtain ⟨⟨hx, hb, hml, hown, hts⟩, ⟨hKK, hA, hNw, hZU, hZS, hTq, hNc⟩, hEx, hRc, hRs⟩ := cx
  have h : a_objI call kont (pc', lo, st) hs = some (o, hs') := h
  match st, h with
  | .ref a :: st, h =>
    have h : (bif Nat.ble (st.map fun v => v.category).sum 8 then kont (pc' + 3, lo, st) hs else none) = some (o, hs') := h
    cases hb2 : Nat.ble (st.map fun v => v.category).sum 8 with
    | false => rw [hb2] at h; cases h
    | true =>
      rw [hb2] at h
      dsimp only [cond_true] at h
      have hs8 : (st.map fun v => v.category).sum ≤ 8 := Nat.le_of_ble_eq_true hb2
      obtain ⟨r1, r2⟩ := hR1 l R cs D ox A call hC
      intro h1 h2
      obtain ⟨g1, g2, g3⟩ := hk _ _ h h1 h2
      refine ⟨g1, g2, fun al H locs ls w wl wv hl => ?_⟩
      have hcs : ((st.map (ev_rv ox al)).map fun v => v.category).sum = (st.map fun v => v.category).sum := ev_cats ox al st
      exact W.objInit (g := F0 m pc' ls (.ref (al.getD a 0) :: st.map (ev_rv ox al))) hx hb hown (hts _ hw1) (hts _ hw2) (hts _ hw3) rfl (by show ls.size = c.maxLocals; rw [hml]; exact hl.1) rfl d r1 (by
        have h7 := lv_room (m := m) (pc := pc') (ls := ls) (rest := .ref (al.getD a 0) :: st.map (ev_rv ox al)) (st := st.map (ev_rv ox al)) (by rw [hcs]; exact hs8)
        omega) (g3 al H locs ls w wl (ev_tl wv) hl)
def a_copy (t : Nat) : EA := fun _ k f hs => match f.2.2 with
  | .int n :: .int dp :: .ref b :: .int sp :: .ref a :: st => match hs.1[a]?, hs.1[b]? with
    | some (.inl t0, v0), some (.inl t1, v1) =>
      bif (Nat.beq t0 t && Nat.beq t1 t) && ((decide (sp = 0) && decide (dp = 0)) && (decide (0 ≤ n) && (Nat.ble n.toNatClampNeg v0.length && (Nat.ble n.toNatClampNeg v1.length && (((v0.take n.toNatClampNeg).all (ev_fit t)) && Nat.ble ((st.map fun v => v.category).sum) 8)))))
      then k (f.1 + 3, f.2.1, st) (hs.1.set b (.inl t1, v0.take n.toNatClampNeg ++ v1.drop n.toNatClampNeg), hs.2) else none
    | _, _ => none
  | _ => none
theorem ev_cpy (v0 v1 : List Value) (n : Nat) (h0 : n ≤ v0.length) : va_cpy (fun j => ev_i (v0.getD j (.int 0))) (fun j => ev_i (v1.getD j (.int 0))) 0 0 n = fun j => ev_i ((v0.take n ++ v1.drop n).getD j (.int 0)) := by
  funext j
  show (if 0 ≤ j ∧ j < 0 + n then ev_i (v0.getD (0 + (j - 0)) (.int 0)) else ev_i (v1.getD j (.int 0))) = _
  rw [List.getD_eq_getElem?_getD, List.getD_eq_getElem?_getD, List.getD_eq_getElem?_getD]
  by_cases hj : j < n
  · rw [if_pos ⟨Nat.zero_le _, by omega⟩, List.getElem?_append_left (by rw [List.length_take]; omega), List.getElem?_take_of_lt hj]
    simp
  · rw [if_neg (fun h => hj (by omega)), List.getElem?_append_right (by rw [List.length_take]; omega), List.length_take, Nat.min_eq_left h0, List.getElem?_drop, show n + (j - n) = j by omega]
theorem ok_copyi {index : Nat} (d : decode cc pc = .ok (.invokestatic index, 3)) (hw1 : Cond.methodLink own index arraycopyName ∈ Ts) (hw2 : Cond.native arraycopyName ∈ Ts) (hw3 : Cond.static arraycopyName ∈ Ts) (hw4 : Cond.initialized "java/lang/System" ∈ Ts) (hR1 : ∀ (l : Launch) (R : Room) (cs : Nat → ClassId) (D : va_G) (ox : Nat → Nat) (A : Nat → Prop) (call : ECall), CO l R cs D ox A call → 1 ≤ R.frames ∧ 260 ≤ R.locals) : ev_Ok cc nL hh own Ts Tn Tq cl isI CO pc (a_copy 0) := by
  intro p l e R s m args below meth c Q D cs ox A al0 k0 n0 call kont f hs o hs' cx hI hC hR hT hpc h hk
  obtain ⟨pc', lo, st⟩ := f
  cases hpc
  obtain ⟨⟨hx, hb, hml, hown, hts⟩, ⟨hKK, hA, hNw, hZU, hZS, hTq, hNc⟩, hEx, hRc, hRs⟩ := cx
  have h : (a_copy 0) call kont (pc', lo, st) hs = some (o, hs') := h
  match st, h with
  | .int n :: .int dp :: .ref b :: .int sp :: .ref a :: st, h =>
    unfold a_copy at h
    dsimp only at h
    cases hqa : hs.1[a]? with
    | none => rw [hqa] at h; cases h
    | some ea =>
      cases hqb : hs.1[b]? with
      | none => rw [hqa, hqb] at h; obtain ⟨ka | ka, va⟩ := ea <;> cases h
      | some eb =>
        rw [hqa, hqb] at h
        obtain ⟨ka, v0⟩ := ea
        obtain ⟨kb, v1⟩ := eb
        cases ka with
        | inr _ => cases h
        | inl t0 =>
         cases kb with
         | inr _ => cases h
         | inl t1 =>
          dsimp only at h
          cases hb2 : ((Nat.beq t0 0 && Nat.beq t1 0) && ((decide (sp = 0) && decide (dp = 0)) && (decide (0 ≤ n) && (Nat.ble n.toNatClampNeg v0.length && (Nat.ble n.toNatClampNeg v1.length && (((v0.take n.toNatClampNeg).all (ev_fit 0)) && Nat.ble ((st.map fun v => v.category).sum) 8)))))) with
          | false => rw [hb2] at h; cases h
          | true =>
            rw [hb2] at h
            simp only [Bool.and_eq_true, decide_eq_true_eq] at hb2
            obtain ⟨⟨q1, q2⟩, ⟨q3, q4⟩, q5, q6, q7, q8, q9⟩ := hb2
            cases Nat.eq_of_beq_eq_true q1
            cases Nat.eq_of_beq_eq_true q2
            subst q3
            subst q4
            have n6 := Nat.le_of_ble_eq_true q6
            have n7 := Nat.le_of_ble_eq_true q7
            have n9 := Nat.le_of_ble_eq_true q9
            have hn : ¬ n < 0 := Int32.not_lt.mpr q5
            obtain ⟨r1, r2⟩ := hR1 l R cs D ox A call hC
            dsimp only [cond_true] at h
            intro h1 h2
            obtain ⟨g1, g2, g3⟩ := hk _ _ h h1 h2
            refine ⟨g1, g2, fun al H locs ls w wl wv hl => ?_⟩
            have hea := ev_w_get (cs := cs) (ox := ox) w.2.1 hqa
            have heb := ev_w_get (cs := cs) (ox := ox) w.2.1 hqb
            have hlen : (v0.take n.toNatClampNeg ++ v1.drop n.toNatClampNeg).length = v1.length := by rw [List.length_append, List.length_take, List.length_drop]; omega
            have hset : (ev_w cs ox al hs.1).set b (al.getD b 0, .inl (cs 0, v1.length, .inl (va_cpy (fun j => ev_i (v0.getD j (.int 0))) (fun j => ev_i (v1.getD j (.int 0))) (0 : Int32).toNatClampNeg (0 : Int32).toNatClampNeg n.toNatClampNeg))) = ev_w cs ox al (hs.1.set b (.inl 0, v0.take n.toNatClampNeg ++ v1.drop n.toNatClampNeg)) := by
              rw [← ev_w_set w.2.1 b (.inl 0, v0.take n.toNatClampNeg ++ v1.drop n.toNatClampNeg)]
              rw [show (0 : Int32).toNatClampNeg = 0 from rfl, ev_cpy v0 v1 n.toNatClampNeg n6]
              show _ = (ev_w cs ox al hs.1).set b (al.getD b 0, .inl (cs 0, ((v0.take n.toNatClampNeg ++ v1.drop n.toNatClampNeg).length, _)))
              rw [hlen]
              rfl
            refine va_copyi hx hb (hml.trans hl.1.symm) hown (hts _ hw1) (hts _ hw2) (hts _ hw3) (hts _ hw4) hKK w.2.2.1 w.2.2.2.1 w.2.2.2.2.1 a b 0 0 (n0 := v0.length) (n1 := v1.length) (f := fun j => ev_i (v0.getD j (.int 0))) (g := fun j => ev_i (v1.getD j (.int 0))) (ty := .int) hea heb rfl rfl rfl (by decide) (by decide) hn (by rw [show (0 : Int32).toNatClampNeg = 0 from rfl]; omega) (by rw [show (0 : Int32).toNatClampNeg = 0 from rfl]; omega) (fun i hi => ?_) r1 (by
              have hcs : ((st.map (ev_rv ox al)).map fun v => v.category).sum = (st.map fun v => v.category).sum := ev_cats ox al st
              have hnw : nativeFrameWords "java/lang/System" "arraycopy" 5 ≤ 200 := by decide +kernel
              omega) d (fun H1 locs1 hP1 hD1 hS1 => ?_)
            · have hz : v0[i]? = some v0[i] := List.getElem?_eq_getElem (by omega)
              have hm : v0[i] ∈ v0.take n.toNatClampNeg := List.mem_of_getElem? (i := i) (by rw [List.getElem?_take_of_lt hi]; exact hz)
              have hf := List.all_eq_true.mp q8 _ hm
              rw [show (0 : Int32).toNatClampNeg = 0 from rfl, Nat.zero_add, List.getD_eq_getElem?_getD, hz]
              show fits .int (.int (ev_i v0[i])) = true
              cases hv : v0[i] with
              | int x => rw [hv] at hf; exact (ev_fit_spec ox al .int (v := .int x) hf).2
              | _ => rw [hv] at hf; cases hf
            · rw [hset] at hP1 hD1
              exact g3 al H1 locs1 ls ⟨w.1, by rw [List.length_set]; exact w.2.1, hP1, hD1, hS1, ev_wf_set w.2.2.2.2.2 (fun v hv => by
                rcases List.mem_append.mp hv with z | z
                · exact w.2.2.2.2.2 _ (List.mem_of_getElem? hqa) v (List.mem_of_mem_take z)
                · exact w.2.2.2.2.2 _ (List.mem_of_getElem? hqb) v (List.mem_of_mem_drop z))⟩ (by dsimp only; rw [List.length_set]; exact wl) (by dsimp only; rw [List.length_set]; exact ev_tl (ev_tl (ev_tl (ev_tl (ev_tl wv))))) hl
theorem ok_copyz {index : Nat} (d : decode cc pc = .ok (.invokestatic index, 3)) (hw1 : Cond.methodLink own index arraycopyName ∈ Ts) (hw2 : Cond.native arraycopyName ∈ Ts) (hw3 : Cond.static arraycopyName ∈ Ts) (hw4 : Cond.initialized "java/lang/System" ∈ Ts) (hR1 : ∀ (l : Launch) (R : Room) (cs : Nat → ClassId) (D : va_G) (ox : Nat → Nat) (A : Nat → Prop) (call : ECall), CO l R cs D ox A call → 1 ≤ R.frames ∧ 260 ≤ R.locals) : ev_Ok cc nL hh own Ts Tn Tq cl isI CO pc (a_copy 1) := by
  intro p l e R s m args below meth c Q D cs ox A al0 k0 n0 call kont f hs o hs' cx hI hC hR hT hpc h hk
  obtain ⟨pc', lo, st⟩ := f
  cases hpc
  obtain ⟨⟨hx, hb, hml, hown, hts⟩, ⟨hKK, hA, hNw, hZU, hZS, hTq, hNc⟩, hEx, hRc, hRs⟩ := cx
  have h : (a_copy 1) call kont (pc', lo, st) hs = some (o, hs') := h
  match st, h with
  | .int n :: .int dp :: .ref b :: .int sp :: .ref a :: st, h =>
    unfold a_copy at h
    dsimp only at h
    cases hqa : hs.1[a]? with
    | none => rw [hqa] at h; cases h
    | some ea =>
      cases hqb : hs.1[b]? with
      | none => rw [hqa, hqb] at h; obtain ⟨ka | ka, va⟩ := ea <;> cases h
      | some eb =>
        rw [hqa, hqb] at h
        obtain ⟨ka, v0⟩ := ea
        obtain ⟨kb, v1⟩ := eb
        cases ka with
        | inr _ => cases h
        | inl t0 =>
         cases kb with
         | inr _ => cases h
         | inl t1 =>
          dsimp only at h
          cases hb2 : ((Nat.beq t0 1 && Nat.beq t1 1) && ((decide (sp = 0) && decide (dp = 0)) && (decide (0 ≤ n) && (Nat.ble n.toNatClampNeg v0.length && (Nat.ble n.toNatClampNeg v1.length && (((v0.take n.toNatClampNeg).all (ev_fit 1)) && Nat.ble ((st.map fun v => v.category).sum) 8)))))) with
          | false => rw [hb2] at h; cases h
          | true =>
            rw [hb2] at h
            simp only [Bool.and_eq_true, decide_eq_true_eq] at hb2
            obtain ⟨⟨q1, q2⟩, ⟨q3, q4⟩, q5, q6, q7, q8, q9⟩ := hb2
            cases Nat.eq_of_beq_eq_true q1
            cases Nat.eq_of_beq_eq_true q2
            subst q3
            subst q4
            have n6 := Nat.le_of_ble_eq_true q6
            have n7 := Nat.le_of_ble_eq_true q7
            have n9 := Nat.le_of_ble_eq_true q9
            have hn : ¬ n < 0 := Int32.not_lt.mpr q5
            obtain ⟨r1, r2⟩ := hR1 l R cs D ox A call hC
            dsimp only [cond_true] at h
            intro h1 h2
            obtain ⟨g1, g2, g3⟩ := hk _ _ h h1 h2
            refine ⟨g1, g2, fun al H locs ls w wl wv hl => ?_⟩
            have hea := ev_w_get (cs := cs) (ox := ox) w.2.1 hqa
            have heb := ev_w_get (cs := cs) (ox := ox) w.2.1 hqb
            have hlen : (v0.take n.toNatClampNeg ++ v1.drop n.toNatClampNeg).length = v1.length := by rw [List.length_append, List.length_take, List.length_drop]; omega
            have hset : (ev_w cs ox al hs.1).set b (al.getD b 0, .inl (cs 1, v1.length, .inl (va_cpy (fun j => ev_i (v0.getD j (.int 0))) (fun j => ev_i (v1.getD j (.int 0))) (0 : Int32).toNatClampNeg (0 : Int32).toNatClampNeg n.toNatClampNeg))) = ev_w cs ox al (hs.1.set b (.inl 1, v0.take n.toNatClampNeg ++ v1.drop n.toNatClampNeg)) := by
              rw [← ev_w_set w.2.1 b (.inl 1, v0.take n.toNatClampNeg ++ v1.drop n.toNatClampNeg)]
              rw [show (0 : Int32).toNatClampNeg = 0 from rfl, ev_cpy v0 v1 n.toNatClampNeg n6]
              show _ = (ev_w cs ox al hs.1).set b (al.getD b 0, .inl (cs 1, ((v0.take n.toNatClampNeg ++ v1.drop n.toNatClampNeg).length, _)))
              rw [hlen]
              rfl
            refine va_copyi hx hb (hml.trans hl.1.symm) hown (hts _ hw1) (hts _ hw2) (hts _ hw3) (hts _ hw4) hKK w.2.2.1 w.2.2.2.1 w.2.2.2.2.1 a b 1 1 (n0 := v0.length) (n1 := v1.length) (f := fun j => ev_i (v0.getD j (.int 0))) (g := fun j => ev_i (v1.getD j (.int 0))) (ty := .boolean) hea heb rfl rfl rfl (by decide) (by decide) hn (by rw [show (0 : Int32).toNatClampNeg = 0 from rfl]; omega) (by rw [show (0 : Int32).toNatClampNeg = 0 from rfl]; omega) (fun i hi => ?_) r1 (by
              have hcs : ((st.map (ev_rv ox al)).map fun v => v.category).sum = (st.map fun v => v.category).sum := ev_cats ox al st
              have hnw : nativeFrameWords "java/lang/System" "arraycopy" 5 ≤ 200 := by decide +kernel
              omega) d (fun H1 locs1 hP1 hD1 hS1 => ?_)
            · have hz : v0[i]? = some v0[i] := List.getElem?_eq_getElem (by omega)
              have hm : v0[i] ∈ v0.take n.toNatClampNeg := List.mem_of_getElem? (i := i) (by rw [List.getElem?_take_of_lt hi]; exact hz)
              have hf := List.all_eq_true.mp q8 _ hm
              rw [show (0 : Int32).toNatClampNeg = 0 from rfl, Nat.zero_add, List.getD_eq_getElem?_getD, hz]
              show fits .boolean (.int (ev_i v0[i])) = true
              cases hv : v0[i] with
              | int x => rw [hv] at hf; exact (ev_fit_spec ox al .boolean (v := .int x) hf).2
              | _ => rw [hv] at hf; cases hf
            · rw [hset] at hP1 hD1
              exact g3 al H1 locs1 ls ⟨w.1, by rw [List.length_set]; exact w.2.1, hP1, hD1, hS1, ev_wf_set w.2.2.2.2.2 (fun v hv => by
                rcases List.mem_append.mp hv with z | z
                · exact w.2.2.2.2.2 _ (List.mem_of_getElem? hqa) v (List.mem_of_mem_take z)
                · exact w.2.2.2.2.2 _ (List.mem_of_getElem? hqb) v (List.mem_of_mem_drop z))⟩ (by dsimp only; rw [List.length_set]; exact wl) (by dsimp only; rw [List.length_set]; exact ev_tl (ev_tl (ev_tl (ev_tl (ev_tl wv))))) hl
theorem ok_ireturn (d : decode cc pc = .ok (.ireturn, 1)) : ev_Ok cc nL hh own Ts Tn Tq cl isI CO pc a_iret := by
  intro p l e R s m args below meth c Q D cs ox A al0 k0 n0 call kont f hs o hs' cx hI hC hR hT hpc h hk
  obtain ⟨pc', lo, st⟩ := f
  cases hpc
  obtain ⟨⟨hx, hb, hml, hown, hts⟩, ⟨hKK, hA, hNw, hZU, hZS, hTq, hNc⟩, hEx, hRc, hRs⟩ := cx
  match st, h with
  | [.int x], h =>
    cases h
    intro h1 h2
    refine ⟨Nat.le_refl _, Nat.le_refl _, fun al H locs ls w wl wv hl => ?_⟩
    exact hR _ rfl al H locs ls pc' .ireturn w wv rfl d h1 h2
theorem ok_lreturn (d : decode cc pc = .ok (.lreturn, 1)) : ev_Ok cc nL hh own Ts Tn Tq cl isI CO pc a_lret := by
  intro p l e R s m args below meth c Q D cs ox A al0 k0 n0 call kont f hs o hs' cx hI hC hR hT hpc h hk
  obtain ⟨pc', lo, st⟩ := f
  cases hpc
  obtain ⟨⟨hx, hb, hml, hown, hts⟩, ⟨hKK, hA, hNw, hZU, hZS, hTq, hNc⟩, hEx, hRc, hRs⟩ := cx
  match st, h with
  | [.long x], h =>
    cases h
    intro h1 h2
    refine ⟨Nat.le_refl _, Nat.le_refl _, fun al H locs ls w wl wv hl => ?_⟩
    exact hR _ rfl al H locs ls pc' .lreturn w wv rfl d h1 h2
theorem ok_dreturn (d : decode cc pc = .ok (.dreturn, 1)) : ev_Ok cc nL hh own Ts Tn Tq cl isI CO pc a_dret := by
  intro p l e R s m args below meth c Q D cs ox A al0 k0 n0 call kont f hs o hs' cx hI hC hR hT hpc h hk
  obtain ⟨pc', lo, st⟩ := f
  cases hpc
  obtain ⟨⟨hx, hb, hml, hown, hts⟩, ⟨hKK, hA, hNw, hZU, hZS, hTq, hNc⟩, hEx, hRc, hRs⟩ := cx
  match st, h with
  | [.double x], h =>
    cases h
    intro h1 h2
    refine ⟨Nat.le_refl _, Nat.le_refl _, fun al H locs ls w wl wv hl => ?_⟩
    exact hR _ rfl al H locs ls pc' .dreturn w wv rfl d h1 h2
theorem ok_areturn (d : decode cc pc = .ok (.areturn, 1)) : ev_Ok cc nL hh own Ts Tn Tq cl isI CO pc a_aret := by
  intro p l e R s m args below meth c Q D cs ox A al0 k0 n0 call kont f hs o hs' cx hI hC hR hT hpc h hk
  obtain ⟨pc', lo, st⟩ := f
  cases hpc
  obtain ⟨⟨hx, hb, hml, hown, hts⟩, ⟨hKK, hA, hNw, hZU, hZS, hTq, hNc⟩, hEx, hRc, hRs⟩ := cx
  match st, h with
  | [.ref x], h =>
    cases h
    intro h1 h2
    refine ⟨Nat.le_refl _, Nat.le_refl _, fun al H locs ls w wl wv hl => ?_⟩
    exact hR _ rfl al H locs ls pc' .areturn w wv rfl d h1 h2
theorem ok_vreturn (d : decode cc pc = .ok (.return_, 1)) : ev_Ok cc nL hh own Ts Tn Tq cl isI CO pc a_vret := by
  intro p l e R s m args below meth c Q D cs ox A al0 k0 n0 call kont f hs o hs' cx hI hC hR hT hpc h hk
  obtain ⟨pc', lo, st⟩ := f
  cases hpc
  obtain ⟨⟨hx, hb, hml, hown, hts⟩, ⟨hKK, hA, hNw, hZU, hZS, hTq, hNc⟩, hEx, hRc, hRs⟩ := cx
  match st, h with
  | [], h =>
    cases h
    intro h1 h2
    refine ⟨Nat.le_refl _, Nat.le_refl _, fun al H locs ls w wl wv hl => ?_⟩
    exact hR _ rfl al H locs ls pc' .return_ w wv rfl d h1 h2
theorem ok_tsw {dflt lo hi : Int} {offs : Array Int} {len t : Nat} {ts : List Nat} (d : decode cc pc = .ok (.tableswitch dflt lo hi offs, len)) (hts2 : ts.map (fun z : Nat => (z : Int) - (pc : Int)) = offs.toList) (hlen : (offs.size : Int) = hi - lo + 1) (ht : (pc : Int) + dflt = (t : Int)) : ev_Ok cc nL hh own Ts Tn Tq cl isI CO pc (a_tsw lo ts t) := by
  intro p l e R s m args below meth c Q D cs ox A al0 k0 n0 call kont f hs o hs' cx hI hC hR hT hpc h hk
  obtain ⟨pc', lo_, st⟩ := f
  cases hpc
  obtain ⟨⟨hx, hb, hml, hown, hts⟩, ⟨hKK, hA, hNw, hZU, hZS, hTq, hNc⟩, hEx, hRc, hRs⟩ := cx
  match st, h with
  | .int x :: st, h =>
    have h : (if x.toInt < lo then kont (t, lo_, st) hs else match ts[(x.toInt - lo).toNat]? with | some t1 => kont (t1, lo_, st) hs | none => kont (t, lo_, st) hs) = some (o, hs') := h
    by_cases q : x.toInt < lo
    · rw [if_pos q] at h
      intro h1 h2
      obtain ⟨g1, g2, g3⟩ := hk _ _ h h1 h2
      refine ⟨g1, g2, fun al H locs ls w wl wv hl => ?_⟩
      exact lv_tableOut hx hb d (Or.inl q) ht (g3 al H locs ls w wl (ev_tl wv) hl)
    · rw [if_neg q] at h
      cases hq : ts[(x.toInt - lo).toNat]? with
      | none =>
        rw [hq] at h
        intro h1 h2
        obtain ⟨g1, g2, g3⟩ := hk _ _ h h1 h2
        refine ⟨g1, g2, fun al H locs ls w wl wv hl => ?_⟩
        have hl5 : offs.size = ts.length := by rw [← Array.length_toList, ← hts2, List.length_map]
        have hl6 := List.getElem?_eq_none_iff.mp hq
        exact lv_tableOut hx hb d (Or.inr (by omega)) ht (g3 al H locs ls w wl (ev_tl wv) hl)
      | some t1 =>
        rw [hq] at h
        have ho : offs[(x.toInt - lo).toNat]? = some ((t1 : Int) - (pc' : Int)) := by
          rw [← Array.getElem?_toList, ← hts2, List.getElem?_map, hq]; rfl
        have hl5 : offs.size = ts.length := by rw [← Array.length_toList, ← hts2, List.length_map]
        have hl6 := (List.getElem?_eq_some_iff.mp hq).1
        intro h1 h2
        obtain ⟨g1, g2, g3⟩ := hk _ _ h h1 h2
        refine ⟨g1, g2, fun al H locs ls w wl wv hl => ?_⟩
        exact lv_tableIn hx hb d q (by omega) ho (by omega) (g3 al H locs ls w wl (ev_tl wv) hl)
end EVO
end
section
/-! EV: calls, whole methods, the depth. -/
/-- a method: its name, its code, its locals, what it returns, its table of handlers -/
abbrev EM : Type := Nat → MethodName × ByteArray × Nat × Option FieldType × List (Nat × Nat × Nat × Nat)
def ev_fr (d : Nat) : Nat := d + 8
def ev_lw (d : Nat) : Nat := 64 * d + 200
def ev_cw (mt : EM) (y : Nat) : Cond := match (mt y).2.2.2.2 with
  | [] => Cond.code (mt y).1 (mt y).2.1 (mt y).2.2.1 (mt y).2.2.2.1
  | hh => Cond.codeWith (mt y).1 (mt y).2.1 (mt y).2.2.1 (mt y).2.2.2.1 hh
def ev_ws (mt : EM) (Tg : List Cond) (y : Nat) : List Cond := ev_cw mt y :: Tg
theorem ev_ws0 {mt : EM} {Tg : List Cond} {y : Nat} (h : (mt y).2.2.2.2 = []) : ev_ws mt Tg y = Cond.code (mt y).1 (mt y).2.1 (mt y).2.2.1 (mt y).2.2.2.1 :: Tg := by
  unfold ev_ws ev_cw
  rw [h]
theorem ev_ws1 {mt : EM} {Tg : List Cond} {y : Nat} (h : (mt y).2.2.2.2 ≠ []) : ev_ws mt Tg y = Cond.codeWith (mt y).1 (mt y).2.1 (mt y).2.2.1 (mt y).2.2.2.1 (mt y).2.2.2.2 :: Tg := by
  unfold ev_ws ev_cw
  cases hq : (mt y).2.2.2.2 with
  | nil => exact absurd hq h
  | cons a b => rfl
def ev_Pc (D : va_G) (cl : List vw_C) (cs : Nat → ClassId) (ox : Nat → Nat) (A : Nat → Prop) (Tn : List Cond) (Tq : EQ) (al : List Nat) (h : List EC) (av : List Value) : Array Value → State → Prop := fun v U =>
  v = (av.map (ev_rv ox al)).toArray ∧ ev_Sr D cl cs Tn Tq A U ∧ al.length = h.length ∧ va_P D cl (ev_w cs ox al h) U.heap ∧ va_D A (ev_w cs ox al h) ∧ ev_wf h ∧ ∀ v ∈ av, ev_ok h.length v
def ev_Qc (D : va_G) (cl : List vw_C) (cs : Nat → ClassId) (ox : Nat → Nat) (A : Nat → Prop) (al : List Nat) (v : Option Value) (h : List EC) : Array Value → State → Outcome → State → Prop := fun _ st o t =>
  (∃ al' : List Nat, al <+: al' ∧ o = .returned (v.map (ev_rv ox al')) ∧ al'.length = h.length ∧ va_P D cl (ev_w cs ox al' h) t.heap ∧ va_D A (ev_w cs ox al' h) ∧ ev_wf h ∧ ∀ w ∈ v.toList, ev_ok h.length w) ∧ va_F A st t
def ev_XC (D : va_G) (cl : List vw_C) (cs : Nat → ClassId) (ox : Nat → Nat) (A : Nat → Prop) (al : List Nat) (E : String) (h : List EC) : String → State → State → Prop := fun E' st t =>
  E' = E ∧ (∃ al' : List Nat, al <+: al' ∧ al'.length = h.length ∧ va_P D cl (ev_w cs ox al' h) t.heap ∧ va_D A (ev_w cs ox al' h) ∧ ev_wf h) ∧ va_F A st t
def ev_Me (l : Launch) (mt : EM) (Tg Tn : List Cond) (Tq : EQ) (cl : List vw_C) (y F LW : Nat) (D : va_G) (cs : Nat → ClassId) (ox : Nat → Nat) (A : Nat → Prop) (al : List Nat) (hs : EH) (av : List Value) (o : Option Value ⊕ String) (hs' : EH) : Prop := match o with
  | .inl v => Met l (mt y).1 (ev_ws mt Tg y) { frames := F, cells := hs'.2.1 - hs.2.1, slots := hs'.2.2 - hs.2.2, locals := LW } (ev_Pc D cl cs ox A Tn Tq al hs.1 av) (ev_Qc D cl cs ox A al v hs'.1) (hs'.2.1 - hs.2.1) (hs'.2.2 - hs.2.2) A
  | .inr E => vx_Met l (mt y).1 (ev_ws mt Tg y) { frames := F, cells := hs'.2.1 - hs.2.1, slots := hs'.2.2 - hs.2.2, locals := LW } (ev_Pc D cl cs ox A Tn Tq al hs.1 av) (fun _ _ _ _ => False) (ev_XC D cl cs ox A al E hs'.1) (hs'.2.1 - hs.2.1) (hs'.2.2 - hs.2.2) A
/-- what holds of the callees, at depth d -/
def ev_CO (mt : EM) (Tg Tn : List Cond) (Tq : EQ) (cl : List vw_C) (d : Nat) : Launch → Room → (Nat → ClassId) → va_G → (Nat → Nat) → (Nat → Prop) → ECall → Prop := fun l R cs D ox A call =>
  ev_fr d + 1 ≤ R.frames ∧ 64 + ev_lw d ≤ R.locals ∧ ∀ (y : Nat) (av : List Value) (hs : EH) (o : Option Value ⊕ String) (hs' : EH), call y av hs = some (o, hs') →
    hs.2.1 ≤ hs'.2.1 ∧ hs.2.2 ≤ hs'.2.2 ∧ ∀ al : List Nat, ev_Me l mt Tg Tn Tq cl y (ev_fr d) (ev_lw d) D cs ox A al hs av o hs'
theorem ev_CO.small {mt : EM} {Tg Tn : List Cond} {Tq : EQ} {cl : List vw_C} {d : Nat} : ∀ (l : Launch) (R : Room) (cs : Nat → ClassId) (D : va_G) (ox : Nat → Nat) (A : Nat → Prop) (call : ECall), ev_CO mt Tg Tn Tq cl d l R cs D ox A call → 1 ≤ R.frames ∧ 20 ≤ R.locals := by
  intro l R cs D ox A call h
  obtain ⟨h1, h2, -⟩ := h
  unfold ev_fr at h1
  unfold ev_lw at h2
  exact ⟨by omega, by omega⟩
/-- the surroundings at a callee's start -/
theorem ev_Sr.to {D : va_G} {cl : List vw_C} {cs : Nat → ClassId} {Tn : List Cond} {Tq : EQ} {A : Nat → Prop} {s U : State} {H : Heap} {locs : List Loc} (h : ev_Sr D cl cs Tn Tq A s) (hH : U.heap = H) (hW : s.WarmedH U.vm) (hS : va_S A s.heap H locs) : ev_Sr D cl cs Tn Tq A U := by
  obtain ⟨h1, h2, h3, h4, h5, h6, h7⟩ := h
  have hq : ∀ a : Nat, a < s.heap.size → ¬ A a → U.heap[a]? = s.heap[a]? := fun a z1 z2 => by rw [hH]; exact hS.2.1 a z1 z2
  refine ⟨va_K.moved hW.alike h1, fun q hq => h2 q (Nat.le_trans hS.1 (by rw [← hH]; exact hq)), fun w hw => ?_, vx_Zq.kept (vx_Zq.moved hW.alike h4) hq, vx_Zq.kept (vx_Zq.moved hW.alike h5) hq, fun q hq => ?_, fun q hq => va_Nc.moved hW.alike (h7 q hq)⟩
  · obtain ⟨n1, n2⟩ := h3 w hw
    refine ⟨n1, ?_⟩
    cases w with
    | fieldLinkNest a i b n d hh => exact va_Nw.warmF hW n2
    | methodLinkNest a i x hh => exact va_Nw.warmM hW n2
    | declares x => exact va_Nw.warmD hW n2
    | castable a b => exact va_Nw.warmC hW n2
    | _ => cases n1
  · obtain ⟨sa, z⟩ := h6 q hq
    exact ⟨sa, vk_R.warm hW z⟩
theorem ev_Sr.same {D : va_G} {cl : List vw_C} {cs : Nat → ClassId} {Tn : List Cond} {Tq : EQ} {A : Nat → Prop} {s U : State} (h : ev_Sr D cl cs Tn Tq A s) (hH : U.heap = s.heap) (hv : U.vm = s.vm) : ev_Sr D cl cs Tn Tq A U := by
  obtain ⟨h1, h2, h3, h4, h5, h6, h7⟩ := h
  have ha : s.vm.Alike U.vm := by rw [hv]; exact Vm.Alike.refl _
  refine ⟨va_K.moved ha h1, fun q hq => h2 q (by rw [← hH]; exact hq), fun w hw => ?_, by rw [hH]; exact vx_Zq.moved ha h4, by rw [hH]; exact vx_Zq.moved ha h5, fun q hq => ?_, fun q hq => va_Nc.moved ha (h7 q hq)⟩
  · obtain ⟨n1, n2⟩ := h3 w hw
    exact ⟨n1, va_Nw.same (ev_nestw_on n1) hv.symm n2⟩
  · obtain ⟨sa, z⟩ := h6 q hq
    exact ⟨sa, vk_R.same hv z⟩
theorem ev_Pc.blind {D : va_G} {cl : List vw_C} {cs : Nat → ClassId} {ox : Nat → Nat} {A : Nat → Prop} {Tn : List Cond} {Tq : EQ} {al : List Nat} {h : List EC} {av : List Value} : FrameBlind (ev_Pc D cl cs ox A Tn Tq al h av) := by
  intro a U g mk q
  obtain ⟨q1, q2, q3⟩ := q
  exact ⟨q1, q2.same (U := U.calling g mk a) rfl rfl, q3⟩
section EVC
variable {p : Program} {l : Launch} {e : Env} {R : Room} {s : State} {m : MethodId} {args : Array Value} {below : List Frame} {meth : Method} {c : Code} {H : Heap} {locs : List Loc} {cells slots : Nat} {Q : State → Prop}
variable {D : va_G} {cl : List vw_C} {cs : Nat → ClassId} {ox : Nat → Nat} {A : Nat → Prop} {al : List Nat} {pc : Nat} {ls : Array Slot} {st0 rest : List Value} {mc ms : Nat} {a : Array Value}
theorem ev_pre {Tn : List Cond} {Tq : EQ} {al0 : List Nat} {h : List EC} {av : List Value} (hs : ev_Sr D cl cs Tn Tq A s) (w : ev_Wd D cl cs ox A s.heap al0 al h H locs) (hv : ∀ v ∈ av, ev_ok h.length v) : PreS s H (ev_Pc D cl cs ox A Tn Tq al h av) (av.map (ev_rv ox al)) :=
  ⟨ev_Pc.blind, fun U hU hW => ⟨rfl, hs.to hU hW w.2.2.2.2.1, w.2.1, by rw [hU]; exact w.2.2.1, w.2.2.2.1, w.2.2.2.2.2, hv⟩⟩
theorem ev_after {v : Option Value} {h : List EC} (hr : va_Run p l e R s m args below meth c H locs cells slots mc ms (F0 m pc ls st0) rest (ev_Qc D cl cs ox A al v h a) A) (hS : va_S A s.heap H locs)
    (kk : ∀ (al' : List Nat) (H1 : Heap) (locs1 : List Loc), al <+: al' → al'.length = h.length → va_P D cl (ev_w cs ox al' h) H1 → va_D A (ev_w cs ox al' h) → va_S A s.heap H1 locs1 → ev_wf h → (∀ w ∈ v.toList, ev_ok h.length w) →
      W p l e R s m args below meth c H1 locs1 (cells + mc) (slots + ms) Q (F0 m (pc + 3) ls ((v.map (ev_rv ox al')).toList ++ rest))) : W p l e R s m args below meth c H locs cells slots Q (F0 m pc ls st0) := by
  intro T hT X
  obtain ⟨v', st₀, t, T', L, h0, X', hL, e1, e2, ⟨⟨al', q1, q2, q3, q4, q5, q6, q7⟩, hz, hk⟩, st⟩ := hr T hT X
  cases q2
  rw [h0] at hz hk
  obtain ⟨t2, a1, b1⟩ := kk al' T'.heap (locs ++ L) q1 q3 (by rw [e1]; exact q4) q5 ⟨Nat.le_trans hS.1 (by rw [e1]; exact hz), fun q h1 h2 => by rw [e1, hk q (Nat.lt_of_lt_of_le h1 hS.1) h2]; exact hS.2.1 q h1 h2, fun q hq => by
      rcases List.mem_append.mp hq with h | h
      · exact hS.2.2 q h
      · exact hL q h⟩ q6 q7 T' rfl X'
  exact ⟨t2, st t2 a1, b1⟩
theorem ev_afterX {E : String} {h : List EC} (hr : vx_Run p l e R s m args below meth c H locs cells slots mc ms (F0 m pc ls st0) rest (fun _ _ _ => False) (ev_XC D cl cs ox A al E h) A) (hS : va_S A s.heap H locs)
    (kk : ∀ (al' : List Nat) (H1 : Heap) (locs1 : List Loc) (ce : Cell) (q9 : Addr), al <+: al' → al'.length = h.length → va_P D cl (ev_w cs ox al' h) H1 → va_D A (ev_w cs ox al' h) → va_S A s.heap H1 locs1 → ev_wf h → H1[q9]? = some ce → ce.vm = .none → s.vm.findClass E = some ce.cls →
      vx_W p l e R s m args below meth c H1 locs1 (cells + mc) (slots + ms) Q (F0 m pc ls rest) q9) : W p l e R s m args below meth c H locs cells slots Q (F0 m pc ls st0) := by
  intro T hT X
  rcases hr T hT X with ⟨v', st₀, t, T', L, h0, X', hL, e1, e2, q, st⟩ | ⟨q9, st₀, t, T', L, E', ce, h0, X', hL, e1, e2, ⟨rfl, ⟨al', q1, q3, q4, q5, q6⟩, hz, hk⟩, hce, hcv, hcl, st⟩
  · exact q.elim
  · rw [h0] at hz hk
    obtain ⟨t2, a1, b1⟩ := kk al' T'.heap (locs ++ L) ce q9 q1 q3 (by rw [e1]; exact q4) q5 ⟨Nat.le_trans hS.1 (by rw [e1]; exact hz), fun q h1 h2 => by rw [e1, hk q (Nat.lt_of_lt_of_le h1 hS.1) h2]; exact hS.2.1 q h1 h2, fun q hq => by
      rcases List.mem_append.mp hq with h | h
      · exact hS.2.2 q h
      · exact hL q h⟩ q6 (by rw [e1]; exact hce) hcv hcl T' rfl X'
    exact ⟨t2, st.trans a1, b1⟩
end EVC
/-- is the first argument an object of class c? -/
def ev_recv (ci : Option Nat) (av : List Value) (h : List EC) : Bool := match ci with
  | none => true
  | some c => match av with
    | .ref b :: _ => (match h[b]? with
      | some (.inr c', _) => Nat.beq c' c
      | _ => false)
    | _ => false
/-- a call of method y with N values (its object, if there is one, among them); thr: what it throws goes on -/
def a_inv (thr : Bool) (y N : Nat) (ci : Option Nat) : EA := fun call k f hs =>
  bif Nat.ble N f.2.2.length && (Nat.ble (((f.2.2.drop N).map fun v => v.category).sum) 8 && ev_recv ci (f.2.2.take N).reverse hs.1) then
    match call y (f.2.2.take N).reverse hs with
    | some (.inl v, h1) => k (f.1 + 3, f.2.1, v.toList ++ f.2.2.drop N) h1
    | some (.inr E, h1) => bif thr then some (.inr E, h1) else none
    | none => none
  else none
/-- one instruction's way of calling y: given the callee's contract, the call runs -/
def ev_Run (thr : Bool) (cc : ByteArray) (nL : Nat) (hh : List (Nat × Nat × Nat × Nat)) (own : String) (Ts Tn : List Cond) (Tq : EQ) (cl : List vw_C) (mt : EM) (y N : Nat) (ci : Option Nat) (pc : Nat) : Prop :=
  ∀ (p : Program) (l : Launch) (e : Env) (R : Room) (s : State) (m : MethodId) (args : Array Value) (below : List Frame) (meth : Method) (c : Code) (D : va_G) (cs : Nat → ClassId) (A : Nat → Prop) (k0 n0 ck cn : Nat),
    ev_Cx p R s m args c cc nL hh own Ts Tn Tq D cl cs A k0 n0 ck cn →
    ∀ (H : Heap) (locs : List Loc) (ls : Array Slot) (cells slots mc ms : Nat) (Pc : Array Value → State → Prop) (Qc : Array Value → State → Outcome → State → Prop) (XC : String → State → State → Prop) (rm : Room) (av rest : List Value),
      av.length = N → ls.size = nL → (rest.map fun v => v.category).sum ≤ 8 → rm.cells = mc → rm.slots = ms → rm.frames + 1 ≤ R.frames → 64 + rm.locals ≤ R.locals → PreS s H Pc av →
      (∀ c, ci = some c → ∃ (b : Nat) (as : List Value) (q : vw_C) (cell : Cell), av = .ref b :: as ∧ cl[c]? = some q ∧ H[b]? = some cell ∧ cell.vm.isStatics = false ∧ s.vm.findClass q.1 = some cell.cls) →
      cells + mc ≤ R.cells ∧ slots + ms ≤ R.slots →
      (Met l (mt y).1 (ev_ws mt Ts y) rm Pc Qc mc ms A → va_Run p l e R s m args below meth c H locs cells slots mc ms (F0 m pc ls (av.reverse ++ rest)) rest (Qc av.toArray) A) ∧
      (thr = true → vx_Met l (mt y).1 (ev_ws mt Ts y) rm Pc Qc XC mc ms A → vx_Run p l e R s m args below meth c H locs cells slots mc ms (F0 m pc ls (av.reverse ++ rest)) rest (Qc av.toArray) XC A)
theorem ok_inv {cc : ByteArray} {nL : Nat} {hh : List (Nat × Nat × Nat × Nat)} {own : String} {Ts Tn : List Cond} {Tq : EQ} {cl : List vw_C} {isI : Bool} {mt : EM} {d pc y N : Nat} {ci : Option Nat} {thr : Bool} (hrun : ev_Run thr cc nL hh own Ts Tn Tq cl mt y N ci pc) :
    ev_Ok cc nL hh own Ts Tn Tq cl isI (ev_CO mt Ts Tn Tq cl d) pc (a_inv thr y N ci) := by
  intro p l e R s m args below meth c Q D cs ox A al0 k0 n0 call kont f hs o hs' cx hI hC hR hT hpc h hk
  obtain ⟨pc', lo, st⟩ := f
  cases hpc
  have h : (bif Nat.ble N st.length && (Nat.ble (((st.drop N).map fun v => v.category).sum) 8 && ev_recv ci (st.take N).reverse hs.1) then
    (match call y (st.take N).reverse hs with
    | some (.inl v, h1) => kont (pc' + 3, lo, v.toList ++ st.drop N) h1
    | some (.inr E, h1) => bif thr then some (.inr E, h1) else none
    | none => none) else none) = some (o, hs') := h
  cases hb : (Nat.ble N st.length && (Nat.ble (((st.drop N).map fun v => v.category).sum) 8 && ev_recv ci (st.take N).reverse hs.1)) with
  | false => rw [hb] at h; cases h
  | true =>
    rw [hb] at h
    dsimp only [cond_true] at h
    obtain ⟨b1, b2⟩ := Bool.and_eq_true_iff.mp hb
    obtain ⟨b2, b3⟩ := Bool.and_eq_true_iff.mp b2
    have n1 : N ≤ st.length := Nat.le_of_ble_eq_true b1
    have n2 : ((st.drop N).map fun v => v.category).sum ≤ 8 := Nat.le_of_ble_eq_true b2
    obtain ⟨r1, r2, hM⟩ := hC
    have hst : ∀ al : List Nat, st.map (ev_rv ox al) = ((st.take N).reverse.map (ev_rv ox al)).reverse ++ (st.drop N).map (ev_rv ox al) := fun al => by
      rw [List.map_reverse, List.reverse_reverse, ← List.map_append, List.take_append_drop]
    have hlen : (st.take N).reverse.length = N := by rw [List.length_reverse, List.length_take]; omega
    have hrecv : ∀ (al : List Nat) (H : Heap), al.length = hs.1.length → va_P D cl (ev_w cs ox al hs.1) H → ∀ c, ci = some c → ∃ (b : Nat) (as : List Value) (q : vw_C) (cell : Cell), (st.take N).reverse.map (ev_rv ox al) = .ref b :: as ∧ cl[c]? = some q ∧ H[b]? = some cell ∧ cell.vm.isStatics = false ∧ s.vm.findClass q.1 = some cell.cls := by
      intro al H hn hP c0 hc0
      subst hc0
      unfold ev_recv at b3
      match hav : (st.take N).reverse, b3 with
      | .ref b :: as, b3 =>
        dsimp only at b3
        cases hq : hs.1[b]? with
        | none => rw [hq] at b3; cases b3
        | some e0 =>
          rw [hq] at b3
          obtain ⟨t0, fs⟩ := e0
          cases t0 with
          | inl t => cases b3
          | inr c' =>
            cases Nat.eq_of_beq_eq_true b3
            have he := ev_w_get (cs := cs) (ox := ox) hn hq
            obtain ⟨r, h1, -⟩ := hP b _ he
            obtain ⟨cell, z1, z2, z3⟩ := va_recv cx.2.1.1 hP h1 he
            exact ⟨al.getD b 0, as.map (ev_rv ox al), r, cell, rfl, h1, z1, z2, z3⟩
    cases hq : call y (st.take N).reverse hs with
    | none => rw [hq] at h; cases h
    | some z =>
      rw [hq] at h
      obtain ⟨z, h1⟩ := z
      obtain ⟨m1, m2, m3⟩ := hM _ _ _ _ _ hq
      cases z with
      | inl v =>
        dsimp only at h
        intro k1 k2
        obtain ⟨g1, g2, g3⟩ := hk _ _ h (Nat.le_trans k1 m1) (Nat.le_trans k2 m2)
        refine ⟨Nat.le_trans m1 g1, Nat.le_trans m2 g2, fun al H locs ls w wl wv hl => ?_⟩
        have hM3 : Met l (mt y).1 (ev_ws mt Ts y) _ _ _ _ _ A := m3 al
        have hcl := cx.2.2.2
        have hr := (hrun p l e R s m args below meth c D cs A k0 n0 _ _ cx H locs ls (hs.2.1 - k0) (hs.2.2 - n0) (h1.2.1 - hs.2.1) (h1.2.2 - hs.2.2) _ _ (fun _ _ _ => False) _ ((st.take N).reverse.map (ev_rv ox al)) ((st.drop N).map (ev_rv ox al)) (by rw [List.length_map]; exact hlen) hl.1 (by rw [ev_cats]; exact n2) rfl rfl r1 r2
          (ev_pre cx.2.1 w (fun v hv => wv v (List.mem_of_mem_take (List.mem_reverse.mp hv)))) (hrecv al H w.2.1 w.2.2.1) (by omega)).1 hM3
        show W p l e R s m args below meth c H locs (hs.2.1 - k0) (hs.2.2 - n0) Q (F0 m pc' ls (st.map (ev_rv ox al)))
        rw [hst al]
        refine ev_after hr w.2.2.2.2.1 (fun al' H1 locs1 q1 q2 q3 q4 q5 q6 q7 => ?_)
        obtain ⟨be, rfl⟩ := q1
        have hmono : hs.1.length ≤ h1.1.length := by rw [← w.2.1, ← q2, List.length_append]; exact Nat.le_add_right _ _
        have k3 := g3 (al ++ be) H1 locs1 ls ⟨List.IsPrefix.trans w.1 (List.prefix_append _ _), q2, q3, q4, q5, q6⟩ (fun q hq => ev_ok_mono hmono (wl q hq)) (fun v' hv' => by
          rcases List.mem_append.mp hv' with z | z
          · exact q7 v' z
          · exact ev_ok_mono hmono (wv v' (List.mem_of_mem_drop z))) (by rw [ev_loc_app w.2.1 wl]; exact hl)
        rw [show h1.2.1 - k0 = hs.2.1 - k0 + (h1.2.1 - hs.2.1) by omega, show h1.2.2 - n0 = hs.2.2 - n0 + (h1.2.2 - hs.2.2) by omega, List.map_append, ev_stk_app w.2.1 (fun v hv => wv v (List.mem_of_mem_drop hv))] at k3
        have hvl : (v.map (ev_rv ox (al ++ be))).toList = v.toList.map (ev_rv ox (al ++ be)) := by cases v <;> rfl
        rw [hvl]
        exact k3
      | inr E =>
        dsimp only at h
        cases ht : thr with
        | false => rw [ht] at h; cases h
        | true =>
          rw [ht] at h
          cases h
          intro k1 k2
          refine ⟨m1, m2, fun al H locs ls w wl wv hl => ?_⟩
          have hM3 : vx_Met l (mt y).1 (ev_ws mt Ts y) _ _ _ _ _ _ A := m3 al
          have hr := (hrun p l e R s m args below meth c D cs A k0 n0 _ _ cx H locs ls (hs.2.1 - k0) (hs.2.2 - n0) (hs'.2.1 - hs.2.1) (hs'.2.2 - hs.2.2) _ _ _ _ ((st.take N).reverse.map (ev_rv ox al)) ((st.drop N).map (ev_rv ox al)) (by rw [List.length_map]; exact hlen) hl.1 (by rw [ev_cats]; exact n2) rfl rfl r1 r2
            (ev_pre cx.2.1 w (fun v hv => wv v (List.mem_of_mem_take (List.mem_reverse.mp hv)))) (hrecv al H w.2.1 w.2.2.1) (by have := cx.2.2.2; omega)).2 ht hM3
          obtain ⟨t1, t2, t3, Qc, XC, rfl, t5⟩ := hT E rfl
          show W p l e R s m args below meth c H locs (hs.2.1 - k0) (hs.2.2 - n0) _ (F0 m pc' ls (st.map (ev_rv ox al)))
          rw [hst al]
          refine ev_afterX hr w.2.2.2.2.1 (fun al' H1 locs1 ce q9 q1 q2 q3 q4 q5 q6 hce hcv hcl => ?_)
          exact vx_out (fun x hx => (t3 x hx).elim) t2 hce hcv hcl (fun t ht ha => t5 al' H1 locs1 ⟨List.IsPrefix.trans w.1 q1, q2, q3, q4, q5, q6⟩ t ht ha) q5.2.2 (by omega) (by omega)

/-- the words of a method's own list are good ones, and the callee's code stands among them -/
theorem ev_good {mt : EM} {Ts : List Cond} {y : Nat} (hz : (mt y).2.2.2.2 = []) (hg : ∀ w ∈ Ts, goodWord w = true) (hc : Cond.code (mt y).1 (mt y).2.1 (mt y).2.2.1 (mt y).2.2.2.1 ∈ Ts) : GoodIn Ts (ev_ws mt Ts y) := by
  intro w hw
  rw [ev_ws0 hz] at hw
  rcases List.mem_cons.mp hw with rfl | hw
  · exact ⟨hc, good_of_word (hg _ hc)⟩
  · exact ⟨hw, good_of_word (hg _ hw)⟩
theorem ev_nlen {n : Nat} {y : MethodName} (h : (parseMethodDescriptor y.desc).map (fun d => d.parameters.length) = some n) : ∀ sig, parseMethodDescriptor y.desc = some sig → n = sig.parameters.length := by
  intro sig hs
  rw [hs] at h
  exact (Option.some.inj h).symm
section EVK
variable {cc : ByteArray} {nL : Nat} {hh : List (Nat × Nat × Nat × Nat)} {own : String} {Ts Tn : List Cond} {Tq : EQ} {cl : List vw_C} {mt : EM} {y n ci index pc : Nat} {q : vw_C} {host : String}
theorem ev_cb {R : Room} {s : State} {args : Array Value} {rm : Room} {mc ms : Nat} (hts : ∀ w ∈ Ts, w.before args s = true) (hz : (mt y).2.2.2.2 = []) (hg : ∀ w ∈ Ts, goodWord w = true) (hc : Cond.code (mt y).1 (mt y).2.1 (mt y).2.2.1 (mt y).2.2.2.1 ∈ Ts) (hini : Cond.initialized (mt y).1.cls ∈ Ts) (hl : Cond.methodLink own index (mt y).1 ∈ Ts)
    (hd : (mt y).1.cls ≠ "java/lang/invoke/MethodHandle" ∧ (mt y).1.cls ≠ "java/lang/invoke/VarHandle" ∧ (parseMethodDescriptor (mt y).1.desc).map (fun d => d.parameters.length) = some n) (hL : (mt y).2.2.1 ≤ 45) (h1 : rm.cells = mc) (h2 : rm.slots = ms) (h3 : rm.frames + 1 ≤ R.frames) (h4 : 64 + rm.locals ≤ R.locals) :
    CallB R s args own index (mt y).1 (mt y).2.1 (mt y).2.2.1 (mt y).2.2.2.1 (ev_ws mt Ts y) rm mc ms n :=
  ⟨h1, h2, h3, by omega, pay_in hts (ev_good hz hg hc), by rw [ev_ws0 hz]; exact List.mem_cons_self, hts _ hc, hts _ hini, ⟨hd.1, hd.2.1⟩, ev_nlen hd.2.2, hts _ hl⟩
theorem run_V (d : decode cc pc = .ok (.invokevirtual index, 3)) (hz : (mt y).2.2.2.2 = []) (hg : ∀ w ∈ Ts, goodWord w = true) (hc : Cond.code (mt y).1 (mt y).2.1 (mt y).2.2.1 (mt y).2.2.2.1 ∈ Ts) (hini : Cond.initialized (mt y).1.cls ∈ Ts) (hl : Cond.methodLink own index (mt y).1 ∈ Ts) (hi : Cond.instanceMethod (mt y).1 ∈ Ts) (hse : Cond.selects (mt y).1.cls (mt y).1 (mt y).1 ∈ Ts)
    (hd : (mt y).1.cls ≠ "java/lang/invoke/MethodHandle" ∧ (mt y).1.cls ≠ "java/lang/invoke/VarHandle" ∧ (parseMethodDescriptor (mt y).1.desc).map (fun d => d.parameters.length) = some n) (hL : (mt y).2.2.1 ≤ 45) (hcl : cl[ci]? = some q) (hq : q.1 = (mt y).1.cls) :
    ev_Run true cc nL hh own Ts Tn Tq cl mt y (n + 1) (some ci) pc := by
  intro p l e R s m args below meth c D cs A k0 n0 ck cn cx H locs ls cells slots mc ms Pc Qc XC rm av rest hN hls h8 h1 h2 h3 h4 hp hr hf
  obtain ⟨b, as, q', cell, rfl, z1, z2, z3, z4⟩ := hr ci rfl
  cases Option.some.inj (z1.symm.trans hcl)
  rw [hq] at z4
  have cw : CallW R s args own (mt y).1.cls index (mt y).1 (mt y).2.1 (mt y).2.2.1 (mt y).2.2.2.1 (ev_ws mt Ts y) rm mc ms n := ⟨ev_cb cx.1.2.2.2.2 hz hg hc hini hl hd hL h1 h2 h3 h4, cx.1.2.2.2.2 _ hi, cx.1.2.2.2.2 _ hse⟩
  have hp2 : PreV s H (mt y).1.cls b Pc as := ⟨hp.1, ⟨cell, z2, z3, z4⟩, hp.2⟩
  have hst : ((Value.ref b :: as).reverse ++ rest) = as.reverse ++ .ref b :: rest := by rw [List.reverse_cons, List.append_assoc]; rfl
  have hn : as.length = n := Nat.succ.inj hN
  rw [hst]
  exact ⟨fun hM => va_runV cx.1 hM cw hp2 rfl hn hls rfl (lv_room h8) d hf, fun _ hM => vx_runV cx.1 hM cw hp2 rfl hn hls rfl (lv_room h8) d hf⟩
theorem run_S (d : decode cc pc = .ok (.invokestatic index, 3)) (hz : (mt y).2.2.2.2 = []) (hg : ∀ w ∈ Ts, goodWord w = true) (hc : Cond.code (mt y).1 (mt y).2.1 (mt y).2.2.1 (mt y).2.2.2.1 ∈ Ts) (hini : Cond.initialized (mt y).1.cls ∈ Ts) (hl : Cond.methodLink own index (mt y).1 ∈ Ts) (hi : Cond.static (mt y).1 ∈ Ts)
    (hd : (mt y).1.cls ≠ "java/lang/invoke/MethodHandle" ∧ (mt y).1.cls ≠ "java/lang/invoke/VarHandle" ∧ (parseMethodDescriptor (mt y).1.desc).map (fun d => d.parameters.length) = some n) (hL : (mt y).2.2.1 ≤ 45) :
    ev_Run true cc nL hh own Ts Tn Tq cl mt y n none pc := by
  intro p l e R s m args below meth c D cs A k0 n0 ck cn cx H locs ls cells slots mc ms Pc Qc XC rm av rest hN hls h8 h1 h2 h3 h4 hp hr hf
  have cw := ev_cb (R := R) (rm := rm) (mc := mc) (ms := ms) (s := s) (args := args) cx.1.2.2.2.2 hz hg hc hini hl hd hL h1 h2 h3 h4
  exact ⟨fun hM => va_runS cx.1 hM ⟨cw, cx.1.2.2.2.2 _ hi⟩ hp rfl hN hls rfl (lv_room h8) d hf, fun _ hM => vx_runS cx.1 hM ⟨cw, cx.1.2.2.2.2 _ hi⟩ hp rfl hN hls rfl (lv_room h8) d hf⟩
theorem run_I (d : decode cc pc = .ok (.invokespecial index, 3)) (hz : (mt y).2.2.2.2 = []) (hg : ∀ w ∈ Ts, goodWord w = true) (hc : Cond.code (mt y).1 (mt y).2.1 (mt y).2.2.1 (mt y).2.2.2.1 ∈ Ts) (hini : Cond.initialized (mt y).1.cls ∈ Ts) (hl : Cond.methodLink own index (mt y).1 ∈ Ts) (hi : Cond.instanceMethod (mt y).1 ∈ Ts) (hy : (mt y).1.name = "<init>") (hre : (mt y).2.2.2.1 = none)
    (hd : (mt y).1.cls ≠ "java/lang/invoke/MethodHandle" ∧ (mt y).1.cls ≠ "java/lang/invoke/VarHandle" ∧ (parseMethodDescriptor (mt y).1.desc).map (fun d => d.parameters.length) = some n) (hL : (mt y).2.2.1 ≤ 45) :
    ev_Run false cc nL hh own Ts Tn Tq cl mt y (n + 1) (some ci) pc := by
  intro p l e R s m args below meth c D cs A k0 n0 ck cn cx H locs ls cells slots mc ms Pc Qc XC rm av rest hN hls h8 h1 h2 h3 h4 hp hr hf
  obtain ⟨b, as, q', cell, rfl, z1, z2, z3, z4⟩ := hr ci rfl
  have cw := ev_cb (R := R) (rm := rm) (mc := mc) (ms := ms) (s := s) (args := args) cx.1.2.2.2.2 hz hg hc hini hl hd hL h1 h2 h3 h4
  rw [hre] at cw
  have hst : ((Value.ref b :: as).reverse ++ rest) = as.reverse ++ .ref b :: rest := by rw [List.reverse_cons, List.append_assoc]; rfl
  have hn : as.length = n := Nat.succ.inj hN
  rw [hst]
  exact ⟨fun hM => va_runI cx.1 hM ⟨cw, hy, cx.1.2.2.2.2 _ hi⟩ hp rfl hn hls rfl (lv_room h8) d hf, fun h => by cases h⟩
theorem ev_cn {R : Room} {s : State} {args : Array Value} {rm : Room} {mc ms : Nat} (hts : ∀ w ∈ Ts, w.before args s = true) (hNw : ∀ w ∈ Tn, ev_nestw w = true ∧ va_Nw w s) (hz : (mt y).2.2.2.2 = []) (hg : ∀ w ∈ Ts, goodWord w = true) (hc : Cond.code (mt y).1 (mt y).2.1 (mt y).2.2.1 (mt y).2.2.2.1 ∈ Ts) (hini : Cond.initialized (mt y).1.cls ∈ Ts) (hl : Cond.methodLinkNest own index (mt y).1 host ∈ Tn)
    (hd : (mt y).1.cls ≠ "java/lang/invoke/MethodHandle" ∧ (mt y).1.cls ≠ "java/lang/invoke/VarHandle" ∧ (parseMethodDescriptor (mt y).1.desc).map (fun d => d.parameters.length) = some n) (hL : (mt y).2.2.1 ≤ 45) (h1 : rm.cells = mc) (h2 : rm.slots = ms) (h3 : rm.frames + 1 ≤ R.frames) (h4 : 64 + rm.locals ≤ R.locals) :
    va_CN R s args own index (mt y).1 host (mt y).2.1 (mt y).2.2.1 (mt y).2.2.2.1 (ev_ws mt Ts y) rm mc ms n :=
  ⟨⟨h1, h2, h3, by omega, pay_in hts (ev_good hz hg hc), by rw [ev_ws0 hz]; exact List.mem_cons_self⟩, hts _ hc, hts _ hini, ⟨hd.1, hd.2.1⟩, ev_nlen hd.2.2, va_Nw.use rfl (hNw _ hl).2⟩
theorem run_VN (d : decode cc pc = .ok (.invokevirtual index, 3)) (hz : (mt y).2.2.2.2 = []) (hg : ∀ w ∈ Ts, goodWord w = true) (hc : Cond.code (mt y).1 (mt y).2.1 (mt y).2.2.1 (mt y).2.2.2.1 ∈ Ts) (hini : Cond.initialized (mt y).1.cls ∈ Ts) (hl : Cond.methodLinkNest own index (mt y).1 host ∈ Tn) (hi : Cond.instanceMethod (mt y).1 ∈ Ts) (hse : Cond.selects (mt y).1.cls (mt y).1 (mt y).1 ∈ Ts)
    (hd : (mt y).1.cls ≠ "java/lang/invoke/MethodHandle" ∧ (mt y).1.cls ≠ "java/lang/invoke/VarHandle" ∧ (parseMethodDescriptor (mt y).1.desc).map (fun d => d.parameters.length) = some n) (hL : (mt y).2.2.1 ≤ 45) (hcl : cl[ci]? = some q) (hq : q.1 = (mt y).1.cls) :
    ev_Run false cc nL hh own Ts Tn Tq cl mt y (n + 1) (some ci) pc := by
  intro p l e R s m args below meth c D cs A k0 n0 ck cn cx H locs ls cells slots mc ms Pc Qc XC rm av rest hN hls h8 h1 h2 h3 h4 hp hr hf
  obtain ⟨b, as, q', cell, rfl, z1, z2, z3, z4⟩ := hr ci rfl
  cases Option.some.inj (z1.symm.trans hcl)
  rw [hq] at z4
  have cw := ev_cn (R := R) (rm := rm) (mc := mc) (ms := ms) (s := s) (args := args) cx.1.2.2.2.2 cx.2.1.2.2.1 hz hg hc hini hl hd hL h1 h2 h3 h4
  have hp2 : PreV s H (mt y).1.cls b Pc as := ⟨hp.1, ⟨cell, z2, z3, z4⟩, hp.2⟩
  have hst : ((Value.ref b :: as).reverse ++ rest) = as.reverse ++ .ref b :: rest := by rw [List.reverse_cons, List.append_assoc]; rfl
  have hn : as.length = n := Nat.succ.inj hN
  rw [hst]
  exact ⟨fun hM => va_runVN cx.1 hM ⟨cw, cx.1.2.2.2.2 _ hi, cx.1.2.2.2.2 _ hse⟩ hp2 rfl hn hls rfl (lv_room h8) d hf, fun h => by cases h⟩
theorem run_SN (d : decode cc pc = .ok (.invokestatic index, 3)) (hz : (mt y).2.2.2.2 = []) (hg : ∀ w ∈ Ts, goodWord w = true) (hc : Cond.code (mt y).1 (mt y).2.1 (mt y).2.2.1 (mt y).2.2.2.1 ∈ Ts) (hini : Cond.initialized (mt y).1.cls ∈ Ts) (hl : Cond.methodLinkNest own index (mt y).1 host ∈ Tn) (hi : Cond.static (mt y).1 ∈ Ts)
    (hd : (mt y).1.cls ≠ "java/lang/invoke/MethodHandle" ∧ (mt y).1.cls ≠ "java/lang/invoke/VarHandle" ∧ (parseMethodDescriptor (mt y).1.desc).map (fun d => d.parameters.length) = some n) (hL : (mt y).2.2.1 ≤ 45) :
    ev_Run false cc nL hh own Ts Tn Tq cl mt y n none pc := by
  intro p l e R s m args below meth c D cs A k0 n0 ck cn cx H locs ls cells slots mc ms Pc Qc XC rm av rest hN hls h8 h1 h2 h3 h4 hp hr hf
  have cw := ev_cn (R := R) (rm := rm) (mc := mc) (ms := ms) (s := s) (args := args) cx.1.2.2.2.2 cx.2.1.2.2.1 hz hg hc hini hl hd hL h1 h2 h3 h4
  exact ⟨fun hM => va_runSN cx.1 hM ⟨cw, cx.1.2.2.2.2 _ hi, trivial⟩ hp rfl hN hls rfl (lv_room h8) d hf, fun h => by cases h⟩
theorem run_IN (d : decode cc pc = .ok (.invokespecial index, 3)) (hz : (mt y).2.2.2.2 = []) (hg : ∀ w ∈ Ts, goodWord w = true) (hc : Cond.code (mt y).1 (mt y).2.1 (mt y).2.2.1 (mt y).2.2.2.1 ∈ Ts) (hini : Cond.initialized (mt y).1.cls ∈ Ts) (hl : Cond.methodLinkNest own index (mt y).1 host ∈ Tn) (hi : Cond.instanceMethod (mt y).1 ∈ Ts) (hy : (mt y).1.name = "<init>") (hre : (mt y).2.2.2.1 = none)
    (hd : (mt y).1.cls ≠ "java/lang/invoke/MethodHandle" ∧ (mt y).1.cls ≠ "java/lang/invoke/VarHandle" ∧ (parseMethodDescriptor (mt y).1.desc).map (fun d => d.parameters.length) = some n) (hL : (mt y).2.2.1 ≤ 45) :
    ev_Run false cc nL hh own Ts Tn Tq cl mt y (n + 1) (some ci) pc := by
  intro p l e R s m args below meth c D cs A k0 n0 ck cn cx H locs ls cells slots mc ms Pc Qc XC rm av rest hN hls h8 h1 h2 h3 h4 hp hr hf
  obtain ⟨b, as, q', cell, rfl, z1, z2, z3, z4⟩ := hr ci rfl
  have cw := ev_cn (R := R) (rm := rm) (mc := mc) (ms := ms) (s := s) (args := args) cx.1.2.2.2.2 cx.2.1.2.2.1 hz hg hc hini hl hd hL h1 h2 h3 h4
  rw [hre] at cw
  have hst : ((Value.ref b :: as).reverse ++ rest) = as.reverse ++ .ref b :: rest := by rw [List.reverse_cons, List.append_assoc]; rfl
  have hn : as.length = n := Nat.succ.inj hN
  rw [hst]
  exact ⟨fun hM => va_runIN cx.1 hM ⟨cw, hy, cx.1.2.2.2.2 _ hi⟩ hp rfl hn hls rfl (lv_room h8) d hf, fun h => by cases h⟩
end EVK
/-! a method's code: a tree over the program counters; its run, with fuel -/
def a_no : EA := fun _ _ _ _ => none
def t_n (k : Nat) (a b : Nat → EA) : Nat → EA := fun pc => bif Nat.ble k pc then b pc else a pc
def t_l (k : Nat) (a : EA) : Nat → EA := fun pc => bif Nat.beq pc k then a else a_no
noncomputable def ev_run (code : Nat → EA) (call : ECall) (n : Nat) : EK := Nat.rec (motive := fun _ => EK) (fun _ _ => none) (fun _ ih f hs => code f.1 call ih f hs) n
section EVT
variable {cc : ByteArray} {nL : Nat} {hh : List (Nat × Nat × Nat × Nat)} {own : String} {Ts Tn : List Cond} {Tq : EQ} {cl : List vw_C} {isI : Bool} {CO : Launch → Room → (Nat → ClassId) → va_G → (Nat → Nat) → (Nat → Prop) → ECall → Prop}
theorem ok_no {pc : Nat} : ev_Ok cc nL hh own Ts Tn Tq cl isI CO pc a_no := by
  intro p l e R s m args below meth c Q D cs ox A al0 k0 n0 call kont f hs o hs' cx hI hC hR hT hpc h hk
  cases h
theorem ok_t_l {k : Nat} {a : EA} (h : ev_Ok cc nL hh own Ts Tn Tq cl isI CO k a) : ∀ pc, ev_Ok cc nL hh own Ts Tn Tq cl isI CO pc (t_l k a pc) := by
  intro pc
  unfold t_l
  cases hq : Nat.beq pc k with
  | true => cases Nat.eq_of_beq_eq_true hq; exact h
  | false => exact ok_no
theorem ok_t_n {k : Nat} {a b : Nat → EA} (ha : ∀ pc, ev_Ok cc nL hh own Ts Tn Tq cl isI CO pc (a pc)) (hb : ∀ pc, ev_Ok cc nL hh own Ts Tn Tq cl isI CO pc (b pc)) : ∀ pc, ev_Ok cc nL hh own Ts Tn Tq cl isI CO pc (t_n k a b pc) := by
  intro pc
  unfold t_n
  cases hq : Nat.ble k pc with
  | true => exact hb pc
  | false => exact ha pc
theorem ev_run_ok {code : Nat → EA} (hcode : ∀ pc, ev_Ok cc nL hh own Ts Tn Tq cl isI CO pc (code pc))
    {p : Program} {l : Launch} {e : Env} {R : Room} {s : State} {m : MethodId} {args : Array Value} {below : List Frame} {meth : Method} {c : Code} {Q : State → Prop} {D : va_G} {cs : Nat → ClassId} {ox : Nat → Nat} {A : Nat → Prop} {al0 : List Nat} {k0 n0 : Nat} {call : ECall} {o : Option Value ⊕ String} {hs' : EH}
    (cx : ev_Cx p R s m args c cc nL hh own Ts Tn Tq D cl cs A k0 n0 hs'.2.1 hs'.2.2) (hI : isI = true → meth.name = "<init>") (hC : CO l R cs D ox A call)
    (hR : ∀ v, o = .inl v → ev_Rt p l e R s m args below meth c Q cc D cl cs ox A al0 k0 n0 v hs') (hT : ∀ E, o = .inr E → ev_Th l s args below meth c Q D cl cs ox A al0 k0 n0 E hs') :
    ∀ (n : Nat) (f : EF) (hs : EH), ev_run code call n f hs = some (o, hs') → ev_G p l e R s m args below meth c Q D cl cs ox A al0 nL k0 n0 hs'.2.1 hs'.2.2 f hs := by
  intro n
  induction n with
  | zero => intro f hs h; cases h
  | succ n ih =>
    intro f hs h
    exact hcode f.1 p l e R s m args below meth c Q D cs ox A al0 k0 n0 call (ev_run code call n) f hs o hs' cx hI hC hR hT rfl h (fun f1 h1 h2 => ih f1 h1 h2)
end EVT
end
section
/-! EV: throws; a whole method's contract out of its run; the depth. -/
def a_throw (E : String) : EA := fun _ _ f hs => bif Nat.ble ((f.2.2.map fun v => v.category).sum) 8 then some (.inr E, hs.1, hs.2.1 + 1, hs.2.2 + 6) else none
theorem ok_throwS {cc : ByteArray} {nL : Nat} {hh : List (Nat × Nat × Nat × Nat)} {own : String} {Ts Tn : List Cond} {Tq : EQ} {cl : List vw_C} {isI : Bool} {mt : EM} {d pc ik is ic : Nat} {cls text : String} {names : List String}
    (d0 : decode cc pc = .ok (.new ik, 3)) (d3 : decode cc (pc + 3) = .ok (.dup, 1)) (d4 : decode cc (pc + 4) = .ok (.ldc is, 2)) (d6 : decode cc (pc + 6) = .ok (.invokespecial ic, 3)) (d9 : decode cc (pc + 9) = .ok (.athrow, 1))
    (hcls : Bundle.fit cls = true) (hnames : ∀ n ∈ names, Bundle.fit n = true) (hn : names.length ≤ 3) (hk : Cond.classLink own ik cls ∈ Ts) (hini : Cond.initialized cls ∈ Ts) (hstr : (own, is, text) ∈ Tq.1) (hat : ∀ w ∈ vx_atS own ic cls names, w ∈ Ts ∨ w ∈ Tn)
    (hgood : ∀ w ∈ Cond.classLink own ik cls :: Cond.initialized cls :: vx_atS own ic cls names, vx_ot w = true) : ev_Ok cc nL hh own Ts Tn Tq cl isI (ev_CO mt Ts Tn Tq cl d) pc (a_throw cls) := by
  intro p l e R s m args below meth c Q D cs ox A al0 k0 n0 call kont f hs o hs' cx hI hC hR hT hpc h hk2
  obtain ⟨pc', lo, st⟩ := f
  cases hpc
  have h : (bif Nat.ble ((st.map fun v => v.category).sum) 8 then some (Sum.inr (α := Option Value) cls, hs.1, hs.2.1 + 1, hs.2.2 + 6) else none) = some (o, hs') := h
  cases hb2 : Nat.ble ((st.map fun v => v.category).sum) 8 with
  | false => rw [hb2] at h; cases h
  | true =>
    rw [hb2] at h
    cases h
    obtain ⟨⟨hx, hb, hml, hown, hts⟩, ⟨hKK, hA, hNw, hZU, hZS, hTq, hNc⟩, hEx, hRc, hRs⟩ := cx
    obtain ⟨t1, t2, t3, Qc, XC, rfl, t5⟩ := hT cls rfl
    obtain ⟨sa, hsa⟩ := hTq _ hstr
    obtain ⟨r1, r2, -⟩ := hC
    unfold ev_fr at r1
    unfold ev_lw at r2
    have n8 : (st.map fun v => v.category).sum ≤ 8 := Nat.le_of_ble_eq_true hb2
    intro h1 h2
    dsimp only at hRc hRs
    refine ⟨Nat.le_succ _, Nat.le_add_right _ _, fun al H locs ls w wl wv hl => ?_⟩
    have n8' : ((st.map (ev_rv ox al)).map fun v => v.category).sum ≤ 8 := by rw [ev_cats]; exact n8
    show W p l e R s m args below meth c H locs (hs.2.1 - k0) (hs.2.2 - n0) _ (F0 m pc' ls (st.map (ev_rv ox al)))
    refine vx_throwS hx hb t1 hown hcls hnames (hts _ hk) (hts _ hini) hsa (fun w hw => ?_) hgood hZU hZS w.2.2.2.2.1 (hl.1.trans hml.symm) d0 d3 d4 d6 d9 (fun x hx => (t3 x hx).elim) (by omega) (by omega) (by omega) (by omega) t2 (fun t ha hz hq => ?_) w.2.2.2.2.1.2.2 (by dsimp only; omega) (by dsimp only; omega)
    · rcases hat w hw with z | z
      · exact hts w z
      · exact va_Nw.use (ev_nestw_on (hNw w z).1) (hNw w z).2
    · have hS' := w.2.2.2.2.1
      refine t5 al t.heap locs ⟨w.1, w.2.1, va_P.kept w.2.2.1 (fun k q hk => hq q.1 ((w.2.2.1 k q hk).lt)), w.2.2.2.1, ⟨Nat.le_trans hS'.1 hz, fun q q1 q2 => ?_, hS'.2.2⟩, w.2.2.2.2.2⟩ t rfl ha
      rw [hq q (Nat.lt_of_lt_of_le q1 hS'.1)]
      exact hS'.2.1 q q1 q2
theorem ok_throwSW {cc : ByteArray} {nL : Nat} {hh : List (Nat × Nat × Nat × Nat)} {own : String} {Ts Tn : List Cond} {Tq : EQ} {cl : List vw_C} {isI : Bool} {mt : EM} {d pc ik is ic : Nat} {cls text : String} {names : List String}
    (d0 : decode cc pc = .ok (.new ik, 3)) (d3 : decode cc (pc + 3) = .ok (.dup, 1)) (d4 : decode cc (pc + 4) = .ok (.ldc_w is, 3)) (d7 : decode cc (pc + 7) = .ok (.invokespecial ic, 3)) (d10 : decode cc (pc + 10) = .ok (.athrow, 1))
    (hcls : Bundle.fit cls = true) (hnames : ∀ n ∈ names, Bundle.fit n = true) (hn : names.length ≤ 3) (hk : Cond.classLink own ik cls ∈ Ts) (hini : Cond.initialized cls ∈ Ts) (hstr : (own, is, text) ∈ Tq.1) (hat : ∀ w ∈ vx_atS own ic cls names, w ∈ Ts ∨ w ∈ Tn)
    (hgood : ∀ w ∈ Cond.classLink own ik cls :: Cond.initialized cls :: vx_atS own ic cls names, vx_ot w = true) : ev_Ok cc nL hh own Ts Tn Tq cl isI (ev_CO mt Ts Tn Tq cl d) pc (a_throw cls) := by
  intro p l e R s m args below meth c Q D cs ox A al0 k0 n0 call kont f hs o hs' cx hI hC hR hT hpc h hk2
  obtain ⟨pc', lo, st⟩ := f
  cases hpc
  have h : (bif Nat.ble ((st.map fun v => v.category).sum) 8 then some (Sum.inr (α := Option Value) cls, hs.1, hs.2.1 + 1, hs.2.2 + 6) else none) = some (o, hs') := h
  cases hb2 : Nat.ble ((st.map fun v => v.category).sum) 8 with
  | false => rw [hb2] at h; cases h
  | true =>
    rw [hb2] at h
    cases h
    obtain ⟨⟨hx, hb, hml, hown, hts⟩, ⟨hKK, hA, hNw, hZU, hZS, hTq, hNc⟩, hEx, hRc, hRs⟩ := cx
    obtain ⟨t1, t2, t3, Qc, XC, rfl, t5⟩ := hT cls rfl
    obtain ⟨sa, hsa⟩ := hTq _ hstr
    obtain ⟨r1, r2, -⟩ := hC
    unfold ev_fr at r1
    unfold ev_lw at r2
    have n8 : (st.map fun v => v.category).sum ≤ 8 := Nat.le_of_ble_eq_true hb2
    intro h1 h2
    dsimp only at hRc hRs
    refine ⟨Nat.le_succ _, Nat.le_add_right _ _, fun al H locs ls w wl wv hl => ?_⟩
    have n8' : ((st.map (ev_rv ox al)).map fun v => v.category).sum ≤ 8 := by rw [ev_cats]; exact n8
    show W p l e R s m args below meth c H locs (hs.2.1 - k0) (hs.2.2 - n0) _ (F0 m pc' ls (st.map (ev_rv ox al)))
    refine vx_throwSW hx hb t1 hown hcls hnames (hts _ hk) (hts _ hini) hsa (fun w hw => ?_) hgood hZU hZS w.2.2.2.2.1 (hl.1.trans hml.symm) d0 d3 d4 d7 d10 (fun x hx => (t3 x hx).elim) (by omega) (by omega) (by omega) (by omega) t2 (fun t ha hz hq => ?_) w.2.2.2.2.1.2.2 (by dsimp only; omega) (by dsimp only; omega)
    · rcases hat w hw with z | z
      · exact hts w z
      · exact va_Nw.use (ev_nestw_on (hNw w z).1) (hNw w z).2
    · have hS' := w.2.2.2.2.1
      refine t5 al t.heap locs ⟨w.1, w.2.1, va_P.kept w.2.2.1 (fun k q hk => hq q.1 ((w.2.2.1 k q hk).lt)), w.2.2.2.1, ⟨Nat.le_trans hS'.1 hz, fun q q1 q2 => ?_, hS'.2.2⟩, w.2.2.2.2.2⟩ t rfl ha
      rw [hq q (Nat.lt_of_lt_of_le q1 hS'.1)]
      exact hS'.2.1 q q1 q2
/-- does the value fit what the method returns? -/
def ev_rok (ret : Option FieldType) (v : Option Value) : Bool := match ret, v with
  | none, none => true
  | some .int, some (.int _) => true
  | some .boolean, some (.int x) => decide (x = 0) || decide (x = 1)
  | some .long, some (.long _) => true
  | some .double, some (.double _) => true
  | some (.object _), some (.ref _) => true
  | some (.array _), some (.ref _) => true
  | _, _ => false
def ev_fin (ret : Option FieldType) (he : Bool) (hs : EH) (r : ER) : ER := match r with
  | some (.inl v, h1) => bif ev_rok ret v && (Nat.ble hs.2.1 h1.2.1 && Nat.ble hs.2.2 h1.2.2) then some (.inl v, h1) else none
  | some (.inr E, h1) => bif he && (Nat.ble hs.2.1 h1.2.1 && Nat.ble hs.2.2 h1.2.2) then some (.inr E, h1) else none
  | none => none
/-- calls to depth d: pg: the methods' codes; fu: the fuel of one run -/
noncomputable def ev_call (mt : EM) (pg : Nat → Nat → EA) (fu d : Nat) : ECall := Nat.rec (motive := fun _ => ECall) (fun _ _ _ => none) (fun _ ih y av hs =>
  bif Nat.ble ((av.map fun v => v.category).sum) (mt y).2.2.1 then ev_fin (mt y).2.2.2.1 ((mt y).2.2.2.2.isEmpty && plainName (mt y).1.cls) hs (ev_run (pg y) ih fu (0, lv_args 0 av, []) hs) else none) d
theorem ev_fin_spec {ret : Option FieldType} {he : Bool} {hs : EH} {r : ER} {o : Option Value ⊕ String} {h1 : EH} (h : ev_fin ret he hs r = some (o, h1)) : r = some (o, h1) ∧ hs.2.1 ≤ h1.2.1 ∧ hs.2.2 ≤ h1.2.2 ∧ (∀ v, o = .inl v → ev_rok ret v = true) ∧ ∀ E, o = .inr E → he = true := by
  unfold ev_fin at h
  match r, h with
  | some (.inl v, h2), h =>
    dsimp only at h
    cases hb : (ev_rok ret v && (Nat.ble hs.2.1 h2.2.1 && Nat.ble hs.2.2 h2.2.2)) with
    | false => rw [hb] at h; cases h
    | true =>
      rw [hb] at h
      cases h
      obtain ⟨b1, b2⟩ := Bool.and_eq_true_iff.mp hb
      obtain ⟨b2, b3⟩ := Bool.and_eq_true_iff.mp b2
      exact ⟨rfl, Nat.le_of_ble_eq_true b2, Nat.le_of_ble_eq_true b3, fun v' hv' => (by cases hv'; exact b1), fun E hE => by cases hE⟩
  | some (.inr E, h2), h =>
    dsimp only at h
    cases hb : (he && (Nat.ble hs.2.1 h2.2.1 && Nat.ble hs.2.2 h2.2.2)) with
    | false => rw [hb] at h; cases h
    | true =>
      rw [hb] at h
      cases h
      obtain ⟨b1, b2⟩ := Bool.and_eq_true_iff.mp hb
      obtain ⟨b2, b3⟩ := Bool.and_eq_true_iff.mp b2
      exact ⟨rfl, Nat.le_of_ble_eq_true b2, Nat.le_of_ble_eq_true b3, fun v' hv' => (by cases hv'), fun E hE => b1⟩
theorem ev_sl_len : ∀ (vs : List Value), (lg_sl vs).length = (vs.map fun v => v.category).sum
  | [] => rfl
  | v :: vs => by
    unfold lg_sl
    rw [List.flatMap_cons, List.length_append, List.map_cons, List.sum_cons]
    have ih := ev_sl_len vs
    unfold lg_sl at ih
    rw [ih]
    congr 1
    cases v <;> rfl
theorem ev_args_map (ox : Nat → Nat) (al : List Nat) : ∀ (vs : List Value) (i : Nat), lv_args i (vs.map (ev_rv ox al)) = (lv_args i vs).map (fun q => (q.1, ev_rv ox al q.2))
  | [], i => rfl
  | v :: vs, i => by
    show (i, ev_rv ox al v) :: lv_args (if (ev_rv ox al v).category = 2 then i + 2 else i + 1) (vs.map (ev_rv ox al)) = (i, ev_rv ox al v) :: (lv_args (if v.category = 2 then i + 2 else i + 1) vs).map _
    rw [ev_rv_cat, ev_args_map ox al vs]
theorem ev_args_ok {n : Nat} : ∀ (vs : List Value) (i : Nat), (∀ v ∈ vs, ev_ok n v) → ∀ q ∈ lv_args i vs, ev_ok n q.2
  | [], i, _, q, hq => by cases hq
  | v :: vs, i, h, q, hq => by
    rcases List.mem_cons.mp hq with rfl | hq
    · exact ev_hd h
    · exact ev_args_ok vs _ (ev_tl h) q hq
section EVM
variable {l : Launch} {mt : EM} {Tg Tn : List Cond} {Tq : EQ} {cl : List vw_C} {y d : Nat} {D : va_G} {cs : Nat → ClassId} {ox : Nat → Nat} {A : Nat → Prop} {isI : Bool} {code : Nat → EA} {call : ECall} {fu : Nat}
/-- a frame that returns meets its contract's end -/
theorem ev_rt_met {p : Program} {e : Env} {R : Room} {s : State} {m : MethodId} {args : Array Value} {below : List Frame} {meth : Method} {c : Code} {cc : ByteArray} (hx : p.tables.exec = Jvm.exec) (hb : c.code = cc) (hlocks : meth.locks = false) {ret : Option FieldType} (hret : meth.sig.returnType = ret)
    {al : List Nat} {k0 n0 : Nat} {v : Option Value} {hs' : EH} (hv : ev_rok ret v = true) :
    ev_Rt p l e R s m args below meth c (MQ below (ev_Qc D cl cs ox A al v hs'.1) args s (hs'.2.1 - k0) (hs'.2.2 - n0) A) cc D cl cs ox A al k0 n0 v hs' := by
  intro al' H locs ls pc ig w wv hg hdg k1 k2
  have hq : ∀ t : State, t.heap = H → s.WarmedH t.vm → ev_Qc D cl cs ox A al v hs'.1 args s (.returned (v.map (ev_rv ox al'))) t := fun t ht hW =>
    ⟨⟨al', w.1, rfl, w.2.1, by rw [ht]; exact w.2.2.1, w.2.2.2.1, w.2.2.2.2.2, wv⟩, w.2.2.2.2.1.F ht⟩
  have hf : ∀ q ∈ locs, A q.base := w.2.2.2.2.1.2.2
  match ret, v, hv, hg, hret, hq with
  | none, none, hv, hg, hret, hq =>
    cases hg
    exact W.vret hx hb hret hq hf hdg
  | some .int, some (.int x), hv, hg, hret, hq =>
    cases hg
    exact W.zret hx hb hret rfl hq hf hdg
  | some .boolean, some (.int x), hv, hg, hret, hq =>
    cases hg
    refine W.zret hx hb hret ?_ hq hf hdg
    rcases Bool.or_eq_true_iff.mp hv with z | z
    · cases of_decide_eq_true z; rfl
    · cases of_decide_eq_true z; rfl
  | some .long, some (.long x), hv, hg, hret, hq =>
    cases hg
    exact W.lret hx hb hret hq hf hdg
  | some .double, some (.double x), hv, hg, hret, hq =>
    cases hg
    exact W.dret hx hb hret hq hf hdg
  | some (.object n), some (.ref x), hv, hg, hret, hq =>
    cases hg
    exact W.aret hx hb hret (Or.inl ⟨n, rfl⟩) (Or.inr ⟨_, rfl⟩) hq hf hdg
  | some (.array n), some (.ref x), hv, hg, hret, hq =>
    cases hg
    exact W.aret hx hb hret (Or.inr ⟨n, rfl⟩) (Or.inr ⟨_, rfl⟩) hq hf hdg
theorem ev_ofW {rm : Room} {Pc : Array Value → State → Prop} {Qc : Array Value → State → Outcome → State → Prop} {mc ms : Nat} {free : Addr → Prop} (hy : plainFor (mt y).1 = true)
    (body : ∀ p e s m args below meth c s₁, BodyLoose p l (mt y).1 (headSpec (ev_ws mt Tg y) rm) (mt y).2.1 (mt y).2.2.1 (mt y).2.2.2.1 e s m args below meth c s₁ → c.maxLocals = (mt y).2.2.1 → Pc args s →
      W p l e (headSpec (ev_ws mt Tg y) rm).room s m args below meth c s.heap [] 0 0 (MQ below Qc args s mc ms free) (entryFrame m args (mt y).2.2.1)) : Met l (mt y).1 (ev_ws mt Tg y) rm Pc Qc mc ms free := by
  refine MetFree.of_bodySF (code := (mt y).2.1) (maxLocals := (mt y).2.2.1) (ret := (mt y).2.2.2.1) hy ?_ ?_
  · intro args s m h hn
    have hw : (ev_cw mt y).before args s = true := atoms_spec (ws := ev_ws mt Tg y) h _ List.mem_cons_self
    unfold ev_cw at hw
    cases hz : (mt y).2.2.2.2 with
    | nil =>
      rw [hz] at hw
      obtain ⟨meth, c, h1, h2, h3, h4, h5, h6, -, -⟩ := Cond.code_spec hn hw
      exact ⟨meth, c, h1, h2, h3, h4, h5, h6⟩
    | cons a b =>
      rw [hz] at hw
      obtain ⟨m9, meth, c, hn9, h1, h2, h3, h4, -, h5, h6, -⟩ := Cond.codeWith_spec hw
      cases hn.symm.trans hn9
      exact ⟨meth, c, h1, h2, h3, h4, h5, h6⟩
  · intro p e s m args below meth c s₁ B hml hP _
    have hh0 : s₁.heap = s.heap := by rw [B.state]; rfl
    obtain ⟨t, a1, o, b1, b2, b3⟩ := body p e s m args below meth c s₁ B hml hP s₁ hh0 (Stand.of_body B)
    exact ⟨t, o, a1, b1, b2, ⟨b3.1, b3.2⟩⟩
theorem ev_tab {rm : Room} {p : Program} {e : Env} {s s₁ : State} {m : MethodId} {args : Array Value} {below : List Frame} {meth : Method} {c : Code} {cc : ByteArray} {nL : Nat} {ret : Option FieldType} (B : BodyLoose p l (mt y).1 (headSpec (ev_ws mt Tg y) rm) cc nL ret e s m args below meth c s₁) :
    c.exceptionTable.toList.map (fun h => (h.startPc, h.endPc, h.handlerPc, h.catchType)) = (mt y).2.2.2.2 := by
  have hw : (ev_cw mt y).before args s = true := atoms_spec (ws := ev_ws mt Tg y) B.pre _ List.mem_cons_self
  unfold ev_cw at hw
  cases hz : (mt y).2.2.2.2 with
  | nil =>
    rw [hz] at hw
    obtain ⟨meth9, c9, h1, h2, -, -, -, -, h7, -⟩ := Cond.code_spec B.named hw
    cases Option.some.inj (h1.symm.trans B.method)
    cases Option.some.inj (h2.symm.trans (Stand.of_body B).code)
    rw [Array.isEmpty_iff.mp h7]
    rfl
  | cons a b =>
    rw [hz] at hw
    obtain ⟨m9, meth9, c9, hn9, h1, h2, -, -, h6, -⟩ := Cond.codeWith_spec hw
    cases Option.some.inj (hn9.symm.trans B.named)
    cases Option.some.inj (h1.symm.trans B.method)
    cases Option.some.inj (h2.symm.trans (Stand.of_body B).code)
    exact h6
theorem ev_met (hl : l.stackTraces = false) (hy : plainFor (mt y).1 = true) (hI : isI = true → (mt y).1.name = "<init>")
    (hcode : ∀ pc, ev_Ok (mt y).2.1 (mt y).2.2.1 (mt y).2.2.2.2 (mt y).1.cls Tg Tn Tq cl isI (ev_CO mt Tg Tn Tq cl d) pc (code pc))
    (hcall : ∀ (R : Room), ev_fr d + 1 ≤ R.frames → 64 + ev_lw d ≤ R.locals → ev_CO mt Tg Tn Tq cl d l R cs D ox A call)
    {av : List Value} {hs hs' : EH} {o : Option Value ⊕ String} (hsl : Nat.ble ((av.map fun v => v.category).sum) (mt y).2.2.1 = true) (h : ev_fin (mt y).2.2.2.1 ((mt y).2.2.2.2.isEmpty && plainName (mt y).1.cls) hs (ev_run code call fu (0, lv_args 0 av, []) hs) = some (o, hs')) (al : List Nat) :
    ev_Me l mt Tg Tn Tq cl y (ev_fr (d + 1)) (ev_lw (d + 1)) D cs ox A al hs av o hs' := by
  obtain ⟨hrun, m1, m2, hrok, hemp⟩ := ev_fin_spec h
  have hn : (lg_sl (av.map (ev_rv ox al))).length ≤ (mt y).2.2.1 := by rw [ev_sl_len, ev_cats]; exact Nat.le_of_ble_eq_true hsl
  cases o with
  | inl v =>
    show Met l _ _ _ _ _ _ _ A
    refine ev_ofW hy ?_
    intro p e s m args below meth c s₁ B hml hv
    obtain ⟨rfl, hsr, hal, hP, hD, hwf, hav⟩ := hv
    have hts := atoms_spec (ws := ev_ws mt Tg y) B.pre
    have hin : meth.name = (mt y).1.name := (name_of_methodNamed B.named B.method).1
    have hG := ev_run_ok hcode (p := p) (l := l) (e := e) (R := { frames := ev_fr (d + 1), cells := hs'.2.1 - hs.2.1, slots := hs'.2.2 - hs.2.2, locals := ev_lw (d + 1) }) (s := s) (m := m) (args := (av.map (ev_rv ox al)).toArray) (below := below) (meth := meth) (c := c) (Q := MQ below (ev_Qc D cl cs ox A al v hs'.1) (av.map (ev_rv ox al)).toArray s (hs'.2.1 - hs.2.1) (hs'.2.2 - hs.2.2) A) (D := D) (cs := cs) (ox := ox) (A := A) (al0 := al) (k0 := hs.2.1) (n0 := hs.2.2) (call := call) (o := .inl v) (hs' := hs')
      ⟨⟨B.exec, B.bytes, hml, findClass_of_methodNamed B.named, fun w hw => hts w (List.mem_cons_of_mem _ hw)⟩, hsr, ev_tab B, Nat.le_refl _, Nat.le_refl _⟩ (fun z => hin.trans (hI z)) (hcall _ (show ev_fr d + 1 ≤ ev_fr (d + 1) by unfold ev_fr; omega) (show 64 + ev_lw d ≤ ev_lw (d + 1) by unfold ev_lw; omega))
      (fun v' hv' => by cases hv'; exact ev_rt_met B.exec B.bytes B.notSynchronized B.returns (hrok v rfl)) (fun E hE => by cases hE) fu _ _ hrun (Nat.le_refl _) (Nat.le_refl _)
    have hW := hG.2.2 al s.heap [] _ ⟨List.prefix_refl _, hal, hP, hD, va_S.rf, hwf⟩ (ev_args_ok av 0 hav) (fun v hv => by cases hv) (by rw [← ev_args_map]; exact lv_entry (av.map (ev_rv ox al)) hn)
    rw [Nat.sub_self, Nat.sub_self] at hW
    rw [lg_entry_eq]
    exact hW
  | inr E =>
    show vx_Met l _ _ _ _ _ _ _ _ A
    obtain ⟨hz, hy2⟩ := Bool.and_eq_true_iff.mp (hemp E rfl)
    have hz : (mt y).2.2.2.2 = [] := List.isEmpty_iff.mp hz
    refine vx_ofW (cc := (mt y).2.1) (maxL := (mt y).2.2.1) (ret := (mt y).2.2.2.1) hy2 (ev_ws0 hz) ?_
    intro p e s m args below meth c s₁ B hml htab hv
    obtain ⟨rfl, hsr, hal, hP, hD, hwf, hav⟩ := hv
    have hts := atoms_spec (ws := ev_ws mt Tg y) B.pre
    have hin : meth.name = (mt y).1.name := (name_of_methodNamed B.named B.method).1
    have hG := ev_run_ok hcode (p := p) (l := l) (e := e) (R := { frames := ev_fr (d + 1), cells := hs'.2.1 - hs.2.1, slots := hs'.2.2 - hs.2.2, locals := ev_lw (d + 1) }) (s := s) (m := m) (args := (av.map (ev_rv ox al)).toArray) (below := below) (meth := meth) (c := c) (Q := vx_MQ below (fun _ _ _ _ => False) (ev_XC D cl cs ox A al E hs'.1) (av.map (ev_rv ox al)).toArray s (hs'.2.1 - hs.2.1) (hs'.2.2 - hs.2.2) A) (D := D) (cs := cs) (ox := ox) (A := A) (al0 := al) (k0 := hs.2.1) (n0 := hs.2.2) (call := call) (o := .inr E) (hs' := hs')
      ⟨⟨B.exec, B.bytes, hml, findClass_of_methodNamed B.named, fun w hw => hts w (List.mem_cons_of_mem _ hw)⟩, hsr, ev_tab B, Nat.le_refl _, Nat.le_refl _⟩ (fun z => hin.trans (hI z)) (hcall _ (show ev_fr d + 1 ≤ ev_fr (d + 1) by unfold ev_fr; omega) (show 64 + ev_lw d ≤ ev_lw (d + 1) by unfold ev_lw; omega))
      (fun v' hv' => by cases hv') (fun E' hE => by
        cases hE
        exact ⟨hl, B.notSynchronized, htab, _, _, rfl, fun al' H locs w t ht ha => ⟨rfl, ⟨al', w.1, w.2.1, by rw [ht]; exact w.2.2.1, w.2.2.2.1, w.2.2.2.2.2⟩, w.2.2.2.2.1.F ht⟩⟩) fu _ _ hrun (Nat.le_refl _) (Nat.le_refl _)
    have hW := hG.2.2 al s.heap [] _ ⟨List.prefix_refl _, hal, hP, hD, va_S.rf, hwf⟩ (ev_args_ok av 0 hav) (fun v hv => by cases hv) (by rw [← ev_args_map]; exact lv_entry (av.map (ev_rv ox al)) hn)
    rw [Nat.sub_self, Nat.sub_self] at hW
    rw [lg_entry_eq]
    exact hW
end EVM
/-- all methods' contracts at every depth -/
theorem ev_depth {l : Launch} {mt : EM} {Tg Tn : List Cond} {Tq : EQ} {cl : List vw_C} {pg : Nat → Nat → EA} {isI : Nat → Bool} (hl : l.stackTraces = false) (hy : ∀ y, plainFor (mt y).1 = true) (hI : ∀ y, isI y = true → (mt y).1.name = "<init>")
    (hcode : ∀ y d pc, ev_Ok (mt y).2.1 (mt y).2.2.1 (mt y).2.2.2.2 (mt y).1.cls Tg Tn Tq cl (isI y) (ev_CO mt Tg Tn Tq cl d) pc (pg y pc)) (D : va_G) (cs : Nat → ClassId) (ox : Nat → Nat) (A : Nat → Prop) (fu : Nat) :
    ∀ (d : Nat) (R : Room), ev_fr d + 1 ≤ R.frames → 64 + ev_lw d ≤ R.locals → ev_CO mt Tg Tn Tq cl d l R cs D ox A (ev_call mt pg fu d) := by
  intro d
  induction d with
  | zero => exact fun R h1 h2 => ⟨h1, h2, fun y av hs o hs' h => by cases h⟩
  | succ d ih =>
    intro R h1 h2
    refine ⟨h1, h2, fun y av hs o hs' h => ?_⟩
    have h : (bif Nat.ble ((av.map fun v => v.category).sum) (mt y).2.2.1 then ev_fin (mt y).2.2.2.1 ((mt y).2.2.2.2.isEmpty && plainName (mt y).1.cls) hs (ev_run (pg y) (ev_call mt pg fu d) fu (0, lv_args 0 av, []) hs) else none) = some (o, hs') := h
    cases hb : Nat.ble ((av.map fun v => v.category).sum) (mt y).2.2.1 with
    | false => rw [hb] at h; cases h
    | true =>
      rw [hb] at h
      obtain ⟨-, m1, m2, -, -⟩ := ev_fin_spec h
      exact ⟨m1, m2, fun al => ev_met hl (hy y) (hI y) (fun pc => hcode y d pc) ih hb h al⟩

/-! a call in a method with handlers: what the callee throws is caught by the first row that names its class -/
def ev_find : List (String × Nat × Nat) → String → Option (Nat × Nat)
  | [], _ => none
  | q :: r, E => bif decide (q.1 = E) then some q.2 else ev_find r E
def ev_del (lo : List (Nat × Value)) (i : Nat) : List (Nat × Value) := lo.filter (fun q => !(q.1 == i) && !(q.1 + 1 == i && q.2.category == 2))
def a_invH (y N : Nat) (ci : Option Nat) (hl : List (String × Nat × Nat)) : EA := fun call k f hs =>
  bif Nat.ble N f.2.2.length && (Nat.ble (((f.2.2.drop N).map fun v => v.category).sum) 8 && ev_recv ci (f.2.2.take N).reverse hs.1) then
    match call y (f.2.2.take N).reverse hs with
    | some (.inl v, h1) => k (f.1 + 3, f.2.1, v.toList ++ f.2.2.drop N) h1
    | some (.inr E, h1) => (match ev_find hl E with
      | some q => k (q.1, ev_del f.2.1 q.2, []) h1
      | none => none)
    | none => none
  else none

theorem ev_CO.small2 {mt : EM} {Tg Tn : List Cond} {Tq : EQ} {cl : List vw_C} {d : Nat} : ∀ (l : Launch) (R : Room) (cs : Nat → ClassId) (D : va_G) (ox : Nat → Nat) (A : Nat → Prop) (call : ECall), ev_CO mt Tg Tn Tq cl d l R cs D ox A call → 1 ≤ R.frames ∧ 260 ≤ R.locals := by
  intro l R cs D ox A call h
  obtain ⟨h1, h2, -⟩ := h
  unfold ev_fr at h1
  unfold ev_lw at h2
  exact ⟨by omega, by omega⟩
/-- a static call of a method with handlers -/
theorem run_SW {cc : ByteArray} {nL : Nat} {hh : List (Nat × Nat × Nat × Nat)} {own : String} {Ts Tn : List Cond} {Tq : EQ} {cl : List vw_C} {mt : EM} {y n index pc : Nat} (d : decode cc pc = .ok (.invokestatic index, 3)) (hz : (mt y).2.2.2.2 ≠ []) (hg : ∀ w ∈ Ts, goodWord w = true)
    (hc : Cond.codeWith (mt y).1 (mt y).2.1 (mt y).2.2.1 (mt y).2.2.2.1 (mt y).2.2.2.2 ∈ Ts) (hini : Cond.initialized (mt y).1.cls ∈ Ts) (hl : Cond.methodLink own index (mt y).1 ∈ Ts) (hi : Cond.static (mt y).1 ∈ Ts)
    (hd : (mt y).1.cls ≠ "java/lang/invoke/MethodHandle" ∧ (mt y).1.cls ≠ "java/lang/invoke/VarHandle" ∧ (parseMethodDescriptor (mt y).1.desc).map (fun d => d.parameters.length) = some n) (hL : (mt y).2.2.1 ≤ 45) :
    ev_Run false cc nL hh own Ts Tn Tq cl mt y n none pc := by
  intro p l e R s m args below meth c D cs A k0 n0 ck cn cx H locs ls cells slots mc ms Pc Qc XC rm av rest hN hls h8 h1 h2 h3 h4 hp hr hf
  have hts := cx.1.2.2.2.2
  have hG : GoodIn Ts (ev_ws mt Ts y) := by
    rw [ev_ws1 hz]
    intro w hw
    rcases List.mem_cons.mp hw with rfl | hw
    · exact ⟨hc, good_of_word (hg _ hc)⟩
    · exact ⟨hw, good_of_word (hg _ hw)⟩
  have cw : vx_CSW R s args own index (mt y).1 (mt y).2.1 (mt y).2.2.1 (mt y).2.2.2.1 (mt y).2.2.2.2 (ev_ws mt Ts y) rm mc ms n :=
    ⟨⟨h1, h2, h3, by omega, pay_in hts hG, by rw [ev_ws1 hz]; exact List.mem_cons_self⟩, hts _ hc, hts _ hini, ⟨hd.1, hd.2.1⟩, ev_nlen hd.2.2, hts _ hl, hts _ hi⟩
  exact ⟨fun hM => vx_runSW cx.1 hM cw hp rfl hN hls rfl (lv_room h8) d hf, fun h => by cases h⟩
/-- what is known of a row of the table of handlers -/
def ev_HF (cc : ByteArray) (nL : Nat) (hh : List (Nat × Nat × Nat × Nat)) (own : String) (Ts Tn : List Cond) (Tq : EQ) (pc : Nat) (E : String) (q : Nat × Nat) : Prop :=
  ∃ (k a b h ct : Nat), hh[k]? = some (a, b, h, ct) ∧ a ≤ pc ∧ pc < b ∧ ct ≠ 0 ∧ Cond.classLink own ct E ∈ Ts ∧ Cond.castable E E ∈ Tn ∧ q.2 < nL ∧
    ((∃ z : Fin 4, (z : Nat) = q.2 ∧ decode cc h = .ok (.astore_n z, 1) ∧ q.1 = h + 1) ∨ (decode cc h = .ok (.astore q.2, 2) ∧ q.1 = h + 2)) ∧
    ∀ (k' : Nat) (z : Nat × Nat × Nat × Nat), k' < k → hh[k']? = some z → z.2.2.2 ≠ 0 ∧ ∃ nm, Cond.classLink own z.2.2.2 nm ∈ Ts ∧ (E, nm) ∈ Tq.2
theorem ev_find_1 {a : String × Nat × Nat} {E : String} {q : Nat × Nat} {P : Prop} {r : List (String × Nat × Nat)} (h : ev_find (a :: r) E = some q) (h1 : a.1 = E → a.2 = q → P) (h2 : ev_find r E = some q → P) : P := by
  unfold ev_find at h
  by_cases hE : a.1 = E
  · rw [decide_eq_true hE] at h
    exact h1 hE (Option.some.inj h)
  · rw [decide_eq_false hE] at h
    exact h2 h
theorem ok_invH {cc : ByteArray} {nL : Nat} {hh : List (Nat × Nat × Nat × Nat)} {own : String} {Ts Tn : List Cond} {Tq : EQ} {cl : List vw_C} {isI : Bool} {mt : EM} {d pc y N : Nat} {ci : Option Nat} {hl : List (String × Nat × Nat)} (hrun : ev_Run true cc nL hh own Ts Tn Tq cl mt y N ci pc)
    (hH : ∀ E q, ev_find hl E = some q → ev_HF cc nL hh own Ts Tn Tq pc E q) : ev_Ok cc nL hh own Ts Tn Tq cl isI (ev_CO mt Ts Tn Tq cl d) pc (a_invH y N ci hl) := by
  intro p l e R s m args below meth c Q D cs ox A al0 k0 n0 call kont f hs o hs' cx hI hC hR hT hpc h hk
  have hok := @ok_inv cc nL hh own Ts Tn Tq cl isI mt d pc y N ci true hrun p l e R s m args below meth c Q D cs ox A al0 k0 n0 call kont f hs o hs' cx hI hC hR hT hpc
  obtain ⟨pc', lo, st⟩ := f
  cases hpc
  have h : (bif Nat.ble N st.length && (Nat.ble (((st.drop N).map fun v => v.category).sum) 8 && ev_recv ci (st.take N).reverse hs.1) then
    (match call y (st.take N).reverse hs with
    | some (.inl v, h1) => kont (pc' + 3, lo, v.toList ++ st.drop N) h1
    | some (.inr E, h1) => (match ev_find hl E with
      | some q => kont (q.1, ev_del lo q.2, []) h1
      | none => none)
    | none => none) else none) = some (o, hs') := h
  have hok : (bif Nat.ble N st.length && (Nat.ble (((st.drop N).map fun v => v.category).sum) 8 && ev_recv ci (st.take N).reverse hs.1) then
    (match call y (st.take N).reverse hs with
    | some (.inl v, h1) => kont (pc' + 3, lo, v.toList ++ st.drop N) h1
    | some (.inr E, h1) => some (.inr E, h1)
    | none => none) else none) = some (o, hs') → _ := hok
  cases hb : (Nat.ble N st.length && (Nat.ble (((st.drop N).map fun v => v.category).sum) 8 && ev_recv ci (st.take N).reverse hs.1)) with
  | false => rw [hb] at h; cases h
  | true =>
    rw [hb] at h hok
    dsimp only [cond_true] at h hok
    cases hq : call y (st.take N).reverse hs with
    | none => rw [hq] at h; cases h
    | some z =>
      rw [hq] at h hok
      obtain ⟨z, h1⟩ := z
      cases z with
      | inl v => exact hok h hk
      | inr E =>
        dsimp only at h
        cases hfd : ev_find hl E with
        | none => rw [hfd] at h; cases h
        | some q =>
          rw [hfd] at h
          dsimp only at h
          obtain ⟨b1, b2⟩ := Bool.and_eq_true_iff.mp hb
          obtain ⟨b2, b3⟩ := Bool.and_eq_true_iff.mp b2
          have n1 : N ≤ st.length := Nat.le_of_ble_eq_true b1
          have n2 : ((st.drop N).map fun v => v.category).sum ≤ 8 := Nat.le_of_ble_eq_true b2
          obtain ⟨r1, r2, hM⟩ := hC
          obtain ⟨m1, m2, m3⟩ := hM _ _ _ _ _ hq
          have hst : ∀ al : List Nat, st.map (ev_rv ox al) = ((st.take N).reverse.map (ev_rv ox al)).reverse ++ (st.drop N).map (ev_rv ox al) := fun al => by
            rw [List.map_reverse, List.reverse_reverse, ← List.map_append, List.take_append_drop]
          have hlen : (st.take N).reverse.length = N := by rw [List.length_reverse, List.length_take]; omega
          have hrecv : ∀ (al : List Nat) (H : Heap), al.length = hs.1.length → va_P D cl (ev_w cs ox al hs.1) H → ∀ c, ci = some c → ∃ (b : Nat) (as : List Value) (q : vw_C) (cell : Cell), (st.take N).reverse.map (ev_rv ox al) = .ref b :: as ∧ cl[c]? = some q ∧ H[b]? = some cell ∧ cell.vm.isStatics = false ∧ s.vm.findClass q.1 = some cell.cls := by
            intro al H hn hP c0 hc0
            subst hc0
            unfold ev_recv at b3
            match hav : (st.take N).reverse, b3 with
            | .ref b :: as, b3 =>
              dsimp only at b3
              cases hq : hs.1[b]? with
              | none => rw [hq] at b3; cases b3
              | some e0 =>
                rw [hq] at b3
                obtain ⟨t0, fs⟩ := e0
                cases t0 with
                | inl t => cases b3
                | inr c' =>
                  cases Nat.eq_of_beq_eq_true b3
                  have he := ev_w_get (cs := cs) (ox := ox) hn hq
                  obtain ⟨r, h1, -⟩ := hP b _ he
                  obtain ⟨cell, z1, z2, z3⟩ := va_recv cx.2.1.1 hP h1 he
                  exact ⟨al.getD b 0, as.map (ev_rv ox al), r, cell, rfl, h1, z1, z2, z3⟩
          obtain ⟨kx, a, b, hpc2, ct, x1, x2, x3, x4, x5, x6, x7, x8, x9⟩ := hH E q hfd
          intro k1 k2
          obtain ⟨g1, g2, g3⟩ := hk _ _ h (Nat.le_trans k1 m1) (Nat.le_trans k2 m2)
          refine ⟨Nat.le_trans m1 g1, Nat.le_trans m2 g2, fun al H locs ls w wl wv hl => ?_⟩
          have hM3 : vx_Met l (mt y).1 (ev_ws mt Ts y) _ _ _ _ _ _ A := m3 al
          have hr := (hrun p l e R s m args below meth c D cs A k0 n0 _ _ cx H locs ls (hs.2.1 - k0) (hs.2.2 - n0) (h1.2.1 - hs.2.1) (h1.2.2 - hs.2.2) _ _ _ _ ((st.take N).reverse.map (ev_rv ox al)) ((st.drop N).map (ev_rv ox al)) (by rw [List.length_map]; exact hlen) hl.1 (by rw [ev_cats]; exact n2) rfl rfl r1 r2
            (ev_pre cx.2.1 w (fun v hv => wv v (List.mem_of_mem_take (List.mem_reverse.mp hv)))) (hrecv al H w.2.1 w.2.2.1) (by have := cx.2.2.2; omega)).2 rfl hM3
          show W p l e R s m args below meth c H locs (hs.2.1 - k0) (hs.2.2 - n0) _ (F0 m pc' ls (st.map (ev_rv ox al)))
          rw [hst al]
          refine ev_afterX hr w.2.2.2.2.1 (fun al' H1 locs1 ce q9 q1 q2 q3 q4 q5 q6 hce hcv hcl => ?_)
          obtain ⟨⟨hx, hbb, hml, hown, hts⟩, ⟨hKK, hA, hNw, hZU, hZS, hTq, hNc⟩, hEx, hRc, hRs⟩ := cx
          have hx1 : (c.exceptionTable.toList.map (fun h => (h.startPc, h.endPc, h.handlerPc, h.catchType)))[kx]? = some (a, b, hpc2, ct) := by rw [hEx]; exact x1
          rw [List.getElem?_map] at hx1
          cases hxe : c.exceptionTable.toList[kx]? with
          | none => rw [hxe] at hx1; cases hx1
          | some xe =>
            rw [hxe] at hx1
            have hxq : (xe.startPc, xe.endPc, xe.handlerPc, xe.catchType) = (a, b, hpc2, ct) := Option.some.inj hx1
            have e1 : xe.startPc = a := congrArg (fun z => z.1) hxq
            have e2 : xe.endPc = b := congrArg (fun z => z.2.1) hxq
            have e3 : xe.handlerPc = hpc2 := congrArg (fun z => z.2.2.1) hxq
            have e4 : xe.catchType = ct := congrArg (fun z => z.2.2.2) hxq
            have hsplit : c.exceptionTable.toList = c.exceptionTable.toList.take kx ++ xe :: c.exceptionTable.toList.drop (kx + 1) := by
              obtain ⟨hlt, hge⟩ := List.getElem?_eq_some_iff.mp hxe
              rw [← hge, List.getElem_cons_drop, List.take_append_drop]
            refine vx_catch hown _ xe _ hsplit (fun z hz => ?_) (by show (decide (xe.startPc ≤ pc') && decide (pc' < xe.endPc)) = true; rw [e1, e2, decide_eq_true x2, decide_eq_true x3]; rfl) (by rw [e4]; exact x4) (by rw [e4]; exact hts _ x5) (va_Nw.use (ev_nestw_on (hNw _ x6).1) (hNw _ x6).2) hce hcv hcl ?_
            · obtain ⟨kz, hkz⟩ := List.getElem?_of_mem hz
              have hkl : kz < kx := by
                have := (List.getElem?_eq_some_iff.mp hkz).1
                rw [List.length_take] at this
                omega
              rw [List.getElem?_take_of_lt hkl] at hkz
              obtain ⟨y1, nm, y2, y3⟩ := x9 kz (z.startPc, z.endPc, z.handlerPc, z.catchType) hkl (by rw [← hEx, List.getElem?_map, hkz]; rfl)
              exact Or.inr ⟨y1, nm, hts _ y2, hNc _ y3⟩
            · obtain ⟨be, rfl⟩ := q1
              have hmono : hs.1.length ≤ h1.1.length := by rw [← w.2.1, ← q2, List.length_append]; exact Nat.le_add_right _ _
              have k3 : ∀ ls', lv_has ls' nL ((ev_del lo q.2).map (fun q : Nat × Value => (q.1, ev_rv ox (al ++ be) q.2))) → W p l e R s m args below meth c H1 locs1 (h1.2.1 - k0) (h1.2.2 - n0) Q (F0 m q.1 ls' []) := fun ls' hl' =>
                g3 (al ++ be) H1 locs1 ls' ⟨List.IsPrefix.trans w.1 (List.prefix_append _ _), q2, q3, q4, q5, q6⟩ (fun z hz => ev_ok_mono hmono (wl z (List.mem_filter.mp hz).1)) (fun v hv => by cases hv) hl'
              rw [show h1.2.1 - k0 = hs.2.1 - k0 + (h1.2.1 - hs.2.1) by omega, show h1.2.2 - n0 = hs.2.2 - n0 + (h1.2.2 - hs.2.2) by omega] at k3
              have hl2 : lv_has ls nL (lo.map (fun q : Nat × Value => (q.1, ev_rv ox (al ++ be) q.2))) := by rw [ev_loc_app w.2.1 wl]; exact hl
              have hdel : ∀ ls', lv_has ls' nL ((q.2, Value.ref q9) :: (lo.map (fun q : Nat × Value => (q.1, ev_rv ox (al ++ be) q.2))).filter (fun z => !(z.1 == q.2) && !(z.1 + 1 == q.2 && z.2.category == 2))) → lv_has ls' nL ((ev_del lo q.2).map (fun q : Nat × Value => (q.1, ev_rv ox (al ++ be) q.2))) := by
                intro ls' hls
                refine ⟨hls.1, hls.2.1, fun z hz => hls.2.2 z (List.mem_cons_of_mem _ ?_)⟩
                rw [ev_filt]
                exact hz
              rw [e3]
              rcases x8 with ⟨z, z1, z2, z3⟩ | ⟨z2, z3⟩
              · rw [z3] at k3
                exact lv_astore_n hx hbb z2 z1 hl2 x7 rfl (fun ls' hls => k3 ls' (hdel ls' hls))
              · rw [z3] at k3
                exact lv_astore hx hbb z2 hl2 x7 rfl (fun ls' hls => k3 ls' (hdel ls' hls))
end
