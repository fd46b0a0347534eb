section
/-! ===== BEGIN words of one list among another's, by their places ===== -/
theorem goodIn_r {big : List Cond} (ws : List Cond) (ps : List Nat) (hp : ws = ps.filterMap (fun i => big[i]?)) (h : ws.all goodWord = true) : GoodIn big ws := by
  intro w hw
  have h1 := List.all_eq_true.mp h w hw
  rw [hp] at hw
  obtain ⟨i, -, hi⟩ := List.mem_filterMap.mp hw
  have hm : w ∈ big := by first | exact List.mem_of_getElem? hi | exact List.getElem?_mem hi
  exact ⟨hm, good_of_word h1⟩
theorem goodIn_app {big a b : List Cond} (ha : GoodIn big a) (hb : GoodIn big b) : GoodIn big (a ++ b) := fun w h => (List.mem_append.mp h).elim (ha w) (hb w)
theorem goodIn_ca {big a b : List Cond} {c : Cond} (ha : GoodIn big (c :: a)) (hb : GoodIn big b) : GoodIn big (c :: (a ++ b)) := fun w h => (List.mem_cons.mp h).elim (fun e => ha w (List.mem_cons.mpr (Or.inl e))) (fun h => (List.mem_append.mp h).elim (fun h => ha w (List.mem_cons.mpr (Or.inr h))) (hb w))
theorem goodIn_sub {big ws : List Cond} (hm : ∀ w ∈ ws, w ∈ big) (h : ws.all goodWord = true) : GoodIn big ws := fun w hw => ⟨hm w hw, good_of_word (List.all_eq_true.mp h w hw)⟩
/-! ===== END ===== -/

/-! ===== BEGIN exceptions that leave a method, and their catching by the caller (launches without stack traces) ===== -/
section VXA
/-! The laws vx_back, vx_callV, vx_callS, vx_callSW, vx_throw0, vx_throwS follow proofs of the library, with one case more: JvmDerived/Free/Laws.lean (Back.of_free), Shelf42/LK1.lean (callV, callS), Shelf/KitTraced.lean (throwNew0V, throwNewS). -/
/-- where a method has thrown q: the class by its name, the cell, what was written, the world -/
def vx_T (XC : String → State → State → Prop) (st : State) (q : Addr) (t : State) (mc ms : Nat) (free : Addr → Prop) : Prop :=
  ∃ (E : String) (ce : Cell) (L : List Loc), XC E st t ∧ t.heap[q]? = some ce ∧ ce.vm = .none ∧ st.vm.findClass E = some ce.cls ∧ st.WarmedH t.vm ∧ st.sameButNew ({ t with vm := st.vm } : State) L mc ms ∧ ∀ z ∈ L, free z.base
def vx_Q (Qc : Array Value → State → Outcome → State → Prop) (XC : String → State → State → Prop) (mc ms : Nat) (free : Addr → Prop) : Array Value → State → Outcome → State → Prop := fun a st o t =>
  (Qc a st o t ∧ ∃ L, FrameEnd st o t L mc ms ∧ ∀ q ∈ L, free q.base) ∨ ∃ q, o = .threw q ∧ vx_T XC st q t mc ms free
/-- a callee that returns or throws -/
def vx_Met (l : Launch) (y : MethodName) (ws : List Cond) (rm : Room) (Pc : Array Value → State → Prop) (Qc : Array Value → State → Outcome → State → Prop) (XC : String → State → State → Prop) (mc ms : Nat) (free : Addr → Prop) : Prop :=
  MetFree l y (headSpec ws rm) Pc (fun _ _ _ _ _ => True) (vx_Q Qc XC mc ms free)
def vx_Post (XC : String → State → State → Prop) (mc ms : Nat) (free : Addr → Prop) : Pt → Array Value → Addr → Pt → Prop := fun A a q B =>
  ∃ (g : JFrame) (mk : MethodId) (t : State) (L : List Loc) (E : String) (ce : Cell), B.U.heap = t.heap ∧ B.U.vm = t.vm ∧ XC E (A.U.calling g mk a) t ∧ t.heap[q]? = some ce ∧ ce.vm = .none ∧ A.U.vm.findClass E = some ce.cls ∧ B.locs = A.locs ++ L ∧ (∀ z ∈ L, free z.base) ∧ B.cells = A.cells + mc ∧ B.slots = A.slots + ms
def vx_Back (l : Launch) (R : Room) (p : Program) (e : Env) (below : List Frame) (s : State) (sargs : Array Value) (y : MethodName) (len W9 : Nat)
    (Pre : Pt → Array Value → Prop) (Post : Pt → Array Value → Option Value → Pt → Prop) (PostX : Pt → Array Value → Addr → Pt → Prop) : Prop :=
  ∀ (m : MethodId) (meth : Method) (c : Code) (A : Pt) (g : JFrame) (ig : Instr) (mk : MethodId) (a : Array Value),
    Stand p l e R s m sargs below meth c A.U A.locs A.cells A.slots → g.method = m → g.locals.size = c.maxLocals → decode c.code g.pc = .ok (ig, len) →
    2 * g.monitorRoom + (g.stack.map fun v => v.category).sum ≤ W9 → A.U.methodNamed? y = some mk → Pre A a →
    (∃ (v : Option Value) (B : Pt), Stand p l e R s m sargs below meth c B.U B.locs B.cells B.slots ∧ Post A a v B ∧
      Steps p.tables e below (doInvoke e (A.U.setTop g) [] mk a).1 (B.U.setTop { g with pc := g.pc + len, stack := v.toList ++ g.stack })) ∨
    (∃ (q : Addr) (B : Pt), Stand p l e R s m sargs below meth c B.U B.locs B.cells B.slots ∧ PostX A a q B ∧
      Steps p.tables e below (doInvoke e (A.U.setTop g) [] mk a).1 ((B.U.setTop g).pushFrame (.throwing q)))
section Payer
variable {l : Launch} {R : Room} {p : Program} {e : Env} {below : List Frame} {s : State} {sargs : Array Value} {y : MethodName} {len W9 : Nat}
theorem vx_back {ws : List Cond} {rm : Room} {Pc : Array Value → State → Prop} {Qc : Array Value → State → Outcome → State → Prop} {XC : String → State → State → Prop} {mc ms : Nat} {free : Addr → Prop} {bytes : ByteArray} {maxL : Nat} {ret : Option FieldType}
    (hM : vx_Met l y ws rm Pc Qc XC mc ms free) (hblind : FrameBlind Pc) (hrc : rm.cells = mc) (hrs : rm.slots = ms)
    (hframes : rm.frames + 1 ≤ R.frames) (hlocals : W9 + (maxL + 11) + rm.locals ≤ R.locals)
    (hws : ∀ w ∈ ws, ∀ a' U, s.WarmedH U.vm → w.before a' U = true) (hcode : Cond.code y bytes maxL ret ∈ ws) (hinit : ∀ a' U, s.WarmedH U.vm → (Cond.initialized y.cls).before a' U = true) :
    vx_Back l R p e below s sargs y len W9 (PreOf R mc ms Pc) (PostOf Qc mc ms free) (vx_Post XC mc ms free) := by
  intro m meth c A g ig mk a X hg hsize hdg hW hn hp
  have h1 : (headSpec ws rm).pre.before a A.U = true := atoms_intro fun w hw => hws w hw _ _ X.warmed
  have h2 : (Cond.code y bytes maxL ret).before a A.U = true := hws _ hcode _ _ X.warmed
  have h3 : (Cond.initialized y.cls).before a A.U = true := hinit _ _ X.warmed
  have h4 : A.cells + (headSpec ws rm).room.cells ≤ R.cells := by rw [show (headSpec ws rm).room.cells = mc from hrc]; exact hp.1
  have h5 : A.slots + (headSpec ws rm).room.slots ≤ R.slots := by rw [show (headSpec ws rm).room.slots = ms from hrs]; exact hp.2.1
  have hPc : Pc a (A.U.calling g mk a) := hblind _ _ _ _ hp.2.2
  obtain ⟨U, Ls, c0, s0⟩ := A
  dsimp only [Pt.U, Pt.locs, Pt.cells, Pt.slots] at h1 h2 h3 h4 h5 X hn hPc ⊢
  obtain ⟨methY, cY, hmY, hcY, -, hlY, -, -, -, -⟩ := Cond.code_spec hn h2
  obtain ⟨kY, hkY, -⟩ := className_of_methodNamed hn
  have hinitY : kY.init = .initialized := Cond.initialized_spec (findClass_of_methodNamed hn) hkY h3
  have h : At U g.method c below := by rw [hg]; exact X.here
  have hlocals9 : W9 + (maxL + 11) + (headSpec ws rm).room.locals ≤ R.locals := hlocals
  have happ : (headSpec ws rm).appliesLoose y e.platform (U.calling g mk a) = true :=
    Spec.appliesLoose_calling (g := g) h hdg hn hkY hinitY
      (X.room_calling (g := g) (R' := (headSpec ws rm).room) hsize hmY hcY hframes (by rw [hlY]; omega) h4 h5) h1
  obtain ⟨mid, hmid⟩ := h.above
  have hfr : (U.setTop g).frames = (.java g :: mid) ++ below := by rw [State.frames_setTop' g h.top, hmid]; rfl
  obtain ⟨o, s₂, hsteps, -, hend, hq⟩ := Steps.callFree hM p X.admits X.cas X.clock (acts := []) hfr happ hPc trivial
  have hq' : vx_Q Qc XC mc ms free a (U.calling g mk a) o s₂ := hq
  rw [State.frames_setTop' g h.top] at hend
  obtain ⟨g₀, hg0⟩ := Option.isSome_iff_exists.mp h.top
  obtain ⟨r, hr⟩ := State.topJava?_eq_some.mp hg0
  have hr' : (({ U with heap := s₂.heap, slotsUsed := s₂.slotsUsed } : State).setVm s₂.vm).frames = .java g₀ :: r := hr
  rcases hq' with ⟨hqc, L, hfe, hL⟩ | ⟨q, rfl, E, ce, L, hx, hce, hcv, hcl, hW₂, hsm, hL⟩
  · obtain ⟨⟨v, rfl⟩, hW₂, e2, q2, q3, q4, q5, q6⟩ := id hfe
    have e3 : s₂ = ({ (U.calling g mk a).setFrames s₂.frames with heap := s₂.heap, slotsUsed := s₂.slotsUsed } : State).setVm s₂.vm := by
      have : s₂ = ({ s₂ with vm := (U.calling g mk a).vm } : State).setVm s₂.vm := rfl
      rw [e2] at this
      exact this
    obtain ⟨c₂, i₂, len₂, hc₂, hd₂, hf₂⟩ := hend
    have hW' : U.WarmedH s₂.vm := hW₂
    have hcc : c₂ = c := by
      have h1 : s₂.code? g.method = U.code? g.method := by
        rw [State.code?_eq, State.code?_eq, hW'.alike.method?]
      exact Option.some.inj (hc₂.symm.trans (h1.trans h.code))
    subst hcc
    have hlen : len₂ = len := by rw [hdg] at hd₂; cases hd₂; rfl
    subst hlen
    have hs₂ : s₂ = (({ U with heap := s₂.heap, slotsUsed := s₂.slotsUsed } : State).setVm s₂.vm).setTop { g with pc := g.pc + len₂, stack := v.toList ++ g.stack } := by
      refine e3.trans ?_
      rw [hf₂, State.calling_eq h.top, State.setFrames_setFrames, State.setTop_of_frames _ hr', hr]
      rfl
    have hsame : U.sameButNew ({ U with heap := s₂.heap, slotsUsed := s₂.slotsUsed } : State) L mc ms := by
      refine ⟨?_, q2, q3, q4, q5, q6⟩
      obtain ⟨t, ht, -⟩ := State.frames_cons hr
      show ({ U with heap := s₂.heap, slotsUsed := s₂.slotsUsed } : State) = { U.setFrames U.frames with heap := s₂.heap, slotsUsed := s₂.slotsUsed }
      rw [State.setFrames_self ht]
    subst hg
    refine Or.inl ⟨v, ⟨(({ U with heap := s₂.heap, slotsUsed := s₂.slotsUsed } : State).setVm s₂.vm), Ls ++ L, c0 + mc, s0 + ms⟩,
      ⟨X.admits, X.cas, X.clock, X.frames, X.room, X.hears, X.method, X.code, (X.here.setHeapUsed s₂.heap s₂.slotsUsed).setVm hW'.alike, X.tail, State.WarmedH.trans X.warmed hW', X.limits, X.bytes, X.same.trans (hsame.setVm s.vm)⟩,
      ⟨g, mk, s₂, L, rfl, rfl, hqc, rfl, hL, rfl, rfl⟩, ?_⟩
    show Steps p.tables e below _ ((({ U with heap := s₂.heap, slotsUsed := s₂.slotsUsed } : State).setVm s₂.vm).setTop { g with pc := g.pc + len₂, stack := v.toList ++ g.stack })
    rw [← hs₂]
    exact hsteps
  · obtain ⟨e2, q2, q3, q4, q5, q6⟩ := id hsm
    have e3 : s₂ = ({ (U.calling g mk a).setFrames s₂.frames with heap := s₂.heap, slotsUsed := s₂.slotsUsed } : State).setVm s₂.vm := by
      have : s₂ = ({ s₂ with vm := (U.calling g mk a).vm } : State).setVm s₂.vm := rfl
      rw [e2] at this
      exact this
    have hf₂ : s₂.frames = .throwing q :: .java g :: U.frames.tail := hend
    have hW' : U.WarmedH s₂.vm := hW₂
    have hs₂ : s₂ = ((({ U with heap := s₂.heap, slotsUsed := s₂.slotsUsed } : State).setVm s₂.vm).setTop g).pushFrame (.throwing q) := by
      refine e3.trans ?_
      rw [hf₂, State.calling_eq h.top, State.setFrames_setFrames, State.pushFrame, State.frames_setTop _ hr', State.setTop_of_frames _ hr', State.setFrames_setFrames, hr]
      rfl
    have hsame : U.sameButNew ({ U with heap := s₂.heap, slotsUsed := s₂.slotsUsed } : State) L mc ms := by
      refine ⟨?_, q2, q3, q4, q5, q6⟩
      obtain ⟨t, ht, -⟩ := State.frames_cons hr
      show ({ U with heap := s₂.heap, slotsUsed := s₂.slotsUsed } : State) = { U.setFrames U.frames with heap := s₂.heap, slotsUsed := s₂.slotsUsed }
      rw [State.setFrames_self ht]
    subst hg
    refine Or.inr ⟨q, ⟨(({ U with heap := s₂.heap, slotsUsed := s₂.slotsUsed } : State).setVm s₂.vm), Ls ++ L, c0 + mc, s0 + ms⟩,
      ⟨X.admits, X.cas, X.clock, X.frames, X.room, X.hears, X.method, X.code, (X.here.setHeapUsed s₂.heap s₂.slotsUsed).setVm hW'.alike, X.tail, State.WarmedH.trans X.warmed hW', X.limits, X.bytes, X.same.trans (hsame.setVm s.vm)⟩,
      ⟨g, mk, s₂, L, E, ce, rfl, rfl, hx, hce, hcv, hcl, rfl, hL, rfl, rfl⟩, ?_⟩
    show Steps p.tables e below _ (((({ U with heap := s₂.heap, slotsUsed := s₂.slotsUsed } : State).setVm s₂.vm).setTop g).pushFrame (.throwing q))
    rw [← hs₂]
    exact hsteps
end Payer
section Calls
variable {p : Program} {l : Launch} {e : Env} {R : Room} {s : State} {m : MethodId} {args : Array Value} {below : List Frame} {meth : Method} {c : Code} {T : State} {locs : List Loc} {cells slots : Nat}
theorem vx_callV (X : Stand p l e R s m args below meth c T locs cells slots) (hexec : p.tables.exec = Jvm.exec) {own C : String} {index : Nat} {y : MethodName} {bytes : ByteArray} {maxL : Nat} {ret : Option FieldType}
    (hown : s.vm.findClass own = some m.cls) (hlink : (Cond.methodLink own index y).before args s = true) (hinst : (Cond.instanceMethod y).before args s = true) (hsel : (Cond.selects C y y).before args s = true)
    (hcode : (Cond.code y bytes maxL ret).before args s = true) (hy : y.cls ≠ "java/lang/invoke/MethodHandle" ∧ y.cls ≠ "java/lang/invoke/VarHandle")
    {W9 : Nat} {Pre : Pt → Array Value → Prop} {Post : Pt → Array Value → Option Value → Pt → Prop} {PostX : Pt → Array Value → Addr → Pt → Prop} (hK : vx_Back l R p e below s args y 3 W9 Pre Post PostX)
    {b : Addr} {cellB : Cell} (hcell : T.heap[b]? = some cellB) (hobj : cellB.vm.isStatics = false) (hcls : s.vm.findClass C = some cellB.cls)
    {g : JFrame} (hg : g.method = m) (hsize : g.locals.size = c.maxLocals) {argsL rest : List Value} (hlen : ∀ sig, parseMethodDescriptor y.desc = some sig → argsL.length = sig.parameters.length)
    (hstack : g.stack = argsL.reverse ++ .ref b :: rest) (hW : 2 * g.monitorRoom + (rest.map fun v => v.category).sum ≤ W9) (hdg : decode c.code g.pc = .ok (.invokevirtual index, 3))
    (hpre : ∀ vm₁, s.WarmedH vm₁ → Pre ⟨T.setVm vm₁, locs, cells, slots⟩ (Value.ref b :: argsL).toArray) :
    (∃ (v : Option Value) (vm₁ : Vm) (B : Pt), s.WarmedH vm₁ ∧ Stand p l e R s m args below meth c B.U B.locs B.cells B.slots ∧ Post ⟨T.setVm vm₁, locs, cells, slots⟩ (Value.ref b :: argsL).toArray v B ∧
      ∀ target, Steps p.tables e below (B.U.setTop { g with pc := g.pc + 3, stack := v.toList ++ rest }) target → Steps p.tables e below (T.setTop g) target) ∨
    (∃ (q : Addr) (vm₁ : Vm) (B : Pt), s.WarmedH vm₁ ∧ Stand p l e R s m args below meth c B.U B.locs B.cells B.slots ∧ PostX ⟨T.setVm vm₁, locs, cells, slots⟩ (Value.ref b :: argsL).toArray q B ∧
      Steps p.tables e below (T.setTop g) ((B.U.setTop { g with stack := rest }).pushFrame (.throwing q))) := by
  obtain ⟨mk, methM, hnamed, hmethM, hstM, habM⟩ := Cond.instanceMethod_spec hinst
  obtain ⟨methM', cM, hmethM', -, -, -, -, -, -, hsigM⟩ := Cond.code_spec hnamed hcode
  cases hmethM.symm.trans hmethM'
  obtain ⟨c2, r2, m2, q1, q2, q3, q4, kP, hkP, hkPi⟩ := Cond.selects_spec hsel
  cases hcls.symm.trans q1
  cases (State.methodFound?_of_named hnamed hy).symm.trans q2
  cases hnamed.symm.trans q3
  have hselP : selectMethod e.platform s.vm cellB.cls mk = .method mk := by rw [Launch.admits_selectMethod X.admits]; exact q4
  obtain ⟨vm₁, X₁, hstep₁⟩ := X.invokevirtual hexec hown hlink hnamed hmethM hstM hkP hkPi hy (a := b) (cell := cellB) hcell
    (fun z h => by rw [h] at hobj; cases hobj) hselP hmethM habM hkP hkPi (g := g) hg (argsL := argsL) (rest := rest) (hlen _ hsigM) hstack hdg
  rcases hK m meth c ⟨T.setVm vm₁, locs, cells, slots⟩ { g with stack := rest } (.invokevirtual index) mk (Value.ref b :: argsL).toArray X₁ hg hsize hdg hW (X₁.named hnamed) (hpre vm₁ X₁.warmed) with ⟨v, B, X', hpost, hsteps⟩ | ⟨q, B, X', hpost, hsteps⟩
  · exact Or.inl ⟨v, vm₁, B, X₁.warmed, X', hpost, fun target h => hstep₁ _ fun acts => by rw [doInvoke_state]; exact hsteps.trans h⟩
  · exact Or.inr ⟨q, vm₁, B, X₁.warmed, X', hpost, hstep₁ _ fun acts => by rw [doInvoke_state]; exact hsteps⟩
theorem vx_callS (X : Stand p l e R s m args below meth c T locs cells slots) (hexec : p.tables.exec = Jvm.exec) {own : String} {index : Nat} {y : MethodName} {bytes : ByteArray} {maxL : Nat} {ret : Option FieldType}
    (hown : s.vm.findClass own = some m.cls) (hlink : (Cond.methodLink own index y).before args s = true) (hstat : (Cond.static y).before args s = true) (hinit : (Cond.initialized y.cls).before args s = true)
    (hcode : (Cond.code y bytes maxL ret).before args s = true) (hy : y.cls ≠ "java/lang/invoke/MethodHandle" ∧ y.cls ≠ "java/lang/invoke/VarHandle")
    {W9 : Nat} {Pre : Pt → Array Value → Prop} {Post : Pt → Array Value → Option Value → Pt → Prop} {PostX : Pt → Array Value → Addr → Pt → Prop} (hK : vx_Back l R p e below s args y 3 W9 Pre Post PostX)
    {g : JFrame} (hg : g.method = m) (hsize : g.locals.size = c.maxLocals) {argsL rest : List Value} (hlen : ∀ sig, parseMethodDescriptor y.desc = some sig → argsL.length = sig.parameters.length)
    (hstack : g.stack = argsL.reverse ++ rest) (hW : 2 * g.monitorRoom + (rest.map fun v => v.category).sum ≤ W9) (hdg : decode c.code g.pc = .ok (.invokestatic index, 3))
    (hpre : ∀ vm₁, s.WarmedH vm₁ → Pre ⟨T.setVm vm₁, locs, cells, slots⟩ argsL.toArray) :
    (∃ (v : Option Value) (vm₁ : Vm) (B : Pt), s.WarmedH vm₁ ∧ Stand p l e R s m args below meth c B.U B.locs B.cells B.slots ∧ Post ⟨T.setVm vm₁, locs, cells, slots⟩ argsL.toArray v B ∧
      ∀ target, Steps p.tables e below (B.U.setTop { g with pc := g.pc + 3, stack := v.toList ++ rest }) target → Steps p.tables e below (T.setTop g) target) ∨
    (∃ (q : Addr) (vm₁ : Vm) (B : Pt), s.WarmedH vm₁ ∧ Stand p l e R s m args below meth c B.U B.locs B.cells B.slots ∧ PostX ⟨T.setVm vm₁, locs, cells, slots⟩ argsL.toArray q B ∧
      Steps p.tables e below (T.setTop g) ((B.U.setTop { g with stack := rest }).pushFrame (.throwing q))) := by
  obtain ⟨mk, hnamed⟩ := Cond.code_named hcode
  obtain ⟨methM, cM, hmethM, -, -, -, -, -, -, hsigM⟩ := Cond.code_spec hnamed hcode
  have hstatic : methM.isStatic = true := Cond.static_spec hnamed hmethM hstat
  obtain ⟨kP, hkP, -⟩ := className_of_methodNamed hnamed
  have hinitP : kP.init = .initialized := Cond.initialized_spec (findClass_of_methodNamed hnamed) hkP hinit
  obtain ⟨vm₁, X₁, hstep₁⟩ := X.invokestatic hexec hown hlink hnamed hmethM hstatic hkP hinitP hy (g := g) hg (argsL := argsL) (rest := rest) (hlen _ hsigM) hstack hdg
  rcases hK m meth c ⟨T.setVm vm₁, locs, cells, slots⟩ { g with stack := rest } (.invokestatic index) mk argsL.toArray X₁ hg hsize hdg hW (X₁.named hnamed) (hpre vm₁ X₁.warmed) with ⟨v, B, X', hpost, hsteps⟩ | ⟨q, B, X', hpost, hsteps⟩
  · exact Or.inl ⟨v, vm₁, B, X₁.warmed, X', hpost, fun target h => hstep₁ _ fun acts => by rw [doInvoke_state]; exact hsteps.trans h⟩
  · exact Or.inr ⟨q, vm₁, B, X₁.warmed, X', hpost, hstep₁ _ fun acts => by rw [doInvoke_state]; exact hsteps⟩
end Calls
theorem vx_cls {s : State} {T : State} {vm₁ : Vm} {E : String} {k : ClassId} (hW : s.WarmedH vm₁) (h : (T.setVm vm₁).vm.findClass E = some k) : s.vm.findClass E = some k := by
  have h1 : vm₁.findClass E = some k := h
  rw [hW.alike.findClass] at h1
  exact h1
/-- the method's frame g, with q thrown over it -/
def vx_W (p : Program) (l : Launch) (e : Env) (R : Room) (s : State) (m : MethodId) (args : Array Value) (below : List Frame) (meth : Method) (c : Code) (H : Heap) (locs : List Loc) (cells slots : Nat) (Q : State → Prop) (g : JFrame) (q : Addr) : Prop :=
  ∀ T : State, T.heap = H → Stand p l e R s m args below meth c T locs cells slots → ∃ t, Steps p.tables e below ((T.setTop g).pushFrame (.throwing q)) t ∧ Q t
def vx_Run (p : Program) (l : Launch) (e : Env) (R : Room) (s : State) (m : MethodId) (args : Array Value) (below : List Frame) (meth : Method) (c : Code) (H : Heap) (locs : List Loc) (cells slots mc ms : Nat) (g : JFrame) (rest : List Value) (Qa : State → Outcome → State → Prop) (XC : String → State → State → Prop) (free : Addr → Prop) : Prop :=
  ∀ T : State, T.heap = H → Stand p l e R s m args below meth c T locs cells slots →
    (∃ (v : Option Value) (st₀ t T' : State) (L : List Loc), st₀.heap = H ∧ Stand p l e R s m args below meth c T' (locs ++ L) (cells + mc) (slots + ms) ∧ (∀ q ∈ L, free q.base) ∧ T'.heap = t.heap ∧ T'.vm = t.vm ∧ Qa st₀ (.returned v) t ∧
      Goes p e below T g T' { g with pc := g.pc + 3, stack := v.toList ++ rest }) ∨
    (∃ (q : Addr) (st₀ t T' : State) (L : List Loc) (E : String) (ce : Cell), st₀.heap = H ∧ Stand p l e R s m args below meth c T' (locs ++ L) (cells + mc) (slots + ms) ∧ (∀ z ∈ L, free z.base) ∧ T'.heap = t.heap ∧ T'.vm = t.vm ∧ XC E st₀ t ∧ t.heap[q]? = some ce ∧ ce.vm = .none ∧ s.vm.findClass E = some ce.cls ∧
      Steps p.tables e below (T.setTop g) ((T'.setTop { g with stack := rest }).pushFrame (.throwing q)))
def vx_X {S : Type} (px : S → Prop) (B : String → S → State → Prop) (A : Nat → Prop) : String → State → State → Prop := fun E st t => ∃ u : S, px u ∧ B E u t ∧ va_F A st t
section Runs
variable {p : Program} {l : Launch} {e : Env} {R : Room} {s : State} {m : MethodId} {args : Array Value} {below : List Frame} {meth : Method} {c : Code} {H : Heap} {locs : List Loc} {cells slots : Nat}
variable {y : MethodName} {bytes cc : ByteArray} {maxL nL mc ms n index : Nat} {ret : Option FieldType} {ws : List Cond} {rm : Room} {Pc : Array Value → State → Prop} {Qc : Array Value → State → Outcome → State → Prop} {XC : String → State → State → Prop} {free : Addr → Prop} {Ts : List Cond} {own C : String} {b : Addr} {As rest : List Value} {g : JFrame}
theorem vx_callBack (cb : CallB R s args own index y bytes maxL ret ws rm mc ms n) (hM : vx_Met l y ws rm Pc Qc XC mc ms free) (hbl : FrameBlind Pc) : vx_Back l R p e below s args y 3 8 (PreOf R mc ms Pc) (PostOf Qc mc ms free) (vx_Post XC mc ms free) := by
  obtain ⟨hrc, hrs, hfr, hlo, hws, hcw, -, hini, -⟩ := cb
  exact vx_back (bytes := bytes) (maxL := maxL) (ret := ret) hM hbl hrc hrs hfr hlo hws hcw (fun a' U hW => word_at hW (Or.inl (by first | rfl | simp [Cond.onTables, Cond.keeps, Cond.steady])) hini)
theorem vx_runV (S : CallFix p m c cc nL s args Ts own) (hM : vx_Met l y ws rm Pc Qc XC mc ms free) (cw : CallW R s args own C index y bytes maxL ret ws rm mc ms n) (hp : PreV s H C b Pc As)
    (hg : g.method = m) (hn : As.length = n) (hsize : g.locals.size = nL) (hstack : g.stack = As.reverse ++ .ref b :: rest) (hW : 2 * g.monitorRoom + (rest.map fun v => v.category).sum ≤ 8) (hdg : decode cc g.pc = .ok (.invokevirtual index, 3)) (hf : cells + mc ≤ R.cells ∧ slots + ms ≤ R.slots) :
    vx_Run p l e R s m args below meth c H locs cells slots mc ms g rest (Qc (Value.ref b :: As).toArray) XC free := by
  have hK : vx_Back l R p e below s args y 3 8 (PreOf R mc ms Pc) (PostOf Qc mc ms free) (vx_Post XC mc ms free) := vx_callBack cw.1 hM hp.1
  obtain ⟨⟨-, -, -, -, -, -, hcode, -, hy, hlen, hl⟩, hin, hse⟩ := cw
  obtain ⟨hx, hb, hml, ho, -⟩ := S
  obtain ⟨-, ⟨cellB, hcB, hoB, hclB⟩, hPc⟩ := hp
  intro T hT X
  rcases vx_callV X hx (C := C) (bytes := bytes) (maxL := maxL) (ret := ret) ho hl hin hse hcode hy hK (by rw [hT]; exact hcB) hoB hclB hg (hsize.trans hml.symm) (argsL := As) (rest := rest) (fun sig h => hn.trans (hlen sig h)) hstack hW (by rw [hb]; exact hdg)
    (fun vm₁ hW₁ => ⟨hf.1, hf.2, hPc (T.setVm vm₁) hT hW₁⟩) with ⟨v, vm₁, ⟨U', l2, c2, s2⟩, hW₁, X', ⟨g', mk, t, L, e1, e2, hq, h1, hL, h2, h3⟩, st⟩ | ⟨q, vm₁, ⟨U', l2, c2, s2⟩, hW₁, X', ⟨g', mk, t, L, E, ce, e1, e2, hq, hce, hcv, hcl, h1, hL, h2, h3⟩, st⟩
  · dsimp only [Pt.U, Pt.locs, Pt.cells, Pt.slots] at X' e1 e2 h1 h2 h3 st
    subst h1; subst h2; subst h3
    exact Or.inl ⟨v, (T.setVm vm₁).calling g' mk (Value.ref b :: As).toArray, t, U', L, hT, X', hL, e1, e2, hq, st⟩
  · dsimp only [Pt.U, Pt.locs, Pt.cells, Pt.slots] at X' e1 e2 h1 h2 h3 st hcl
    subst h1; subst h2; subst h3
    exact Or.inr ⟨q, (T.setVm vm₁).calling g' mk (Value.ref b :: As).toArray, t, U', L, E, ce, hT, X', hL, e1, e2, hq, hce, hcv, vx_cls hW₁ hcl, st⟩
theorem vx_runS (S : CallFix p m c cc nL s args Ts own) (hM : vx_Met l y ws rm Pc Qc XC mc ms free) (cw : CallB R s args own index y bytes maxL ret ws rm mc ms n ∧ (Cond.static y).before args s = true) (hp : PreS s H Pc As)
    (hg : g.method = m) (hn : As.length = n) (hsize : g.locals.size = nL) (hstack : g.stack = As.reverse ++ rest) (hW : 2 * g.monitorRoom + (rest.map fun v => v.category).sum ≤ 8) (hdg : decode cc g.pc = .ok (.invokestatic index, 3)) (hf : cells + mc ≤ R.cells ∧ slots + ms ≤ R.slots) :
    vx_Run p l e R s m args below meth c H locs cells slots mc ms g rest (Qc As.toArray) XC free := by
  have hK : vx_Back l R p e below s args y 3 8 (PreOf R mc ms Pc) (PostOf Qc mc ms free) (vx_Post XC mc ms free) := vx_callBack cw.1 hM hp.1
  obtain ⟨⟨-, -, -, -, -, -, hcode, hini, hy, hlen, hl⟩, hstt⟩ := cw
  obtain ⟨hx, hb, hml, ho, -⟩ := S
  intro T hT X
  rcases vx_callS X hx (bytes := bytes) (maxL := maxL) (ret := ret) ho hl hstt hini hcode hy hK hg (hsize.trans hml.symm) (argsL := As) (rest := rest) (fun sig h => hn.trans (hlen sig h)) hstack hW (by rw [hb]; exact hdg)
    (fun vm₁ hW₁ => ⟨hf.1, hf.2, hp.2 (T.setVm vm₁) hT hW₁⟩) with ⟨v, vm₁, ⟨U', l2, c2, s2⟩, hW₁, X', ⟨g', mk, t, L, e1, e2, hq, h1, hL, h2, h3⟩, st⟩ | ⟨q, vm₁, ⟨U', l2, c2, s2⟩, hW₁, X', ⟨g', mk, t, L, E, ce, e1, e2, hq, hce, hcv, hcl, h1, hL, h2, h3⟩, st⟩
  · dsimp only [Pt.U, Pt.locs, Pt.cells, Pt.slots] at X' e1 e2 h1 h2 h3 st
    subst h1; subst h2; subst h3
    exact Or.inl ⟨v, (T.setVm vm₁).calling g' mk As.toArray, t, U', L, hT, X', hL, e1, e2, hq, st⟩
  · dsimp only [Pt.U, Pt.locs, Pt.cells, Pt.slots] at X' e1 e2 h1 h2 h3 st hcl
    subst h1; subst h2; subst h3
    exact Or.inr ⟨q, (T.setVm vm₁).calling g' mk As.toArray, t, U', L, E, ce, hT, X', hL, e1, e2, hq, hce, hcv, vx_cls hW₁ hcl, st⟩
end Runs
section Rows
variable {p : Program} {l : Launch} {e : Env} {R : Room} {s : State} {m : MethodId} {args : Array Value} {below : List Frame} {meth : Method} {c : Code} {H : Heap} {locs : List Loc} {cells slots : Nat} {Q : State → Prop}
variable {mc ms : Nat} {free : Addr → Prop} {A0 A1 : Nat → Prop} {H0 : Heap} {a : Array Value} {pc : Nat} {ls : Array Slot} {st0 rest : List Value}
theorem vx_keep {st₀ t T' : State} {L : List Loc} (h0 : st₀.heap = H) (e1 : T'.heap = t.heap) (hS : va_S A0 H0 H locs) (hA : ∀ q, q < H.size → A1 q → A0 q) (hf : ∀ q, free q → A0 q) (hL : ∀ q ∈ L, free q.base) (hF : va_F A1 st₀ t) :
    H.size ≤ T'.heap.size ∧ (∀ q : Nat, q < H.size → ¬ A1 q → T'.heap[q]? = H[q]?) ∧ va_S A0 H0 T'.heap (locs ++ L) := by
  obtain ⟨hz, hk⟩ := hF
  rw [h0] at hz hk
  exact ⟨by rw [e1]; exact hz, fun q h1 h2 => by rw [e1]; exact hk q h1 h2,
    ⟨Nat.le_trans hS.1 (by rw [e1]; exact hz), fun q h1 h2 => by rw [e1, hk q (Nat.lt_of_lt_of_le h1 hS.1) (fun z => h2 (hA q (Nat.lt_of_lt_of_le h1 hS.1) z))]; exact hS.2.1 q h1 h2, fun q hq => by
      rcases List.mem_append.mp hq with h | h
      · exact hS.2.2 q h
      · exact hf _ (hL q h)⟩⟩
theorem vx_calli {S SX : Type} {post : Int32 → S → Prop} {px : SX → Prop} {B : S → State → Prop} {BX : String → SX → State → Prop} {AX : Nat → Prop} (hr : vx_Run p l e R s m args below meth c H locs cells slots mc ms (F0 m pc ls st0) rest (va_Qi post B A1 a) (vx_X px BX AX) free) (hS : va_S A0 H0 H locs) (hA : ∀ q, q < H.size → A1 q → A0 q) (hf : ∀ q, free q → A0 q) (hAX : ∀ q, q < H.size → AX q → A0 q)
    (kx : ∀ (E : String) (ce : Cell) (q9 : Addr) (u : SX) (t : State) (H1 : Heap) (locs1 : List Loc), t.heap = H1 → s.vm.Alike t.vm → px u → BX E u t → H.size ≤ H1.size → (∀ q : Nat, q < H.size → ¬ AX q → H1[q]? = H[q]?) → va_S A0 H0 H1 locs1 → H1[q9]? = some ce → ce.vm = .none → s.vm.findClass E = some ce.cls → vx_W p l e R s m args below meth c H1 locs1 (cells + mc) (slots + ms) Q (F0 m pc ls rest) q9)
    (kk : ∀ (r : Int32) (u : S) (t : State) (H1 : Heap) (locs1 : List Loc), t.heap = H1 → s.vm.Alike t.vm → post r u → B u t → H.size ≤ H1.size → (∀ q : Nat, q < H.size → ¬ A1 q → H1[q]? = H[q]?) → va_S A0 H0 H1 locs1 → W p l e R s m args below meth c H1 locs1 (cells + mc) (slots + ms) Q (F0 m (pc + 3) ls (.int r :: rest))) : W p l e R s m args below meth c H locs cells slots Q (F0 m pc ls st0) := by
  intro T hT X
  rcases hr T hT X with ⟨v, st₀, t, T', L, h0, X', hL, e1, e2, ⟨⟨r, u, hv, hp, hb⟩, hF⟩, st⟩ | ⟨q, st₀, t, T', L, E, ce, h0, X', hL, e1, e2, ⟨u, hp, hb, hF⟩, hce, hcv, hcl, st⟩
  · cases hv
    obtain ⟨k1, k2, k3⟩ := vx_keep h0 e1 hS hA hf hL hF
    obtain ⟨t2, a1, b1⟩ := kk r u t T'.heap (locs ++ L) e1.symm (by rw [← e2]; exact X'.warmed.alike) hp hb k1 k2 k3 T' rfl X'
    exact ⟨t2, st t2 a1, b1⟩
  · obtain ⟨k1, k2, k3⟩ := vx_keep h0 e1 hS hAX hf hL hF
    obtain ⟨t2, a1, b1⟩ := kx E ce q u t T'.heap (locs ++ L) e1.symm (by rw [← e2]; exact X'.warmed.alike) hp hb k1 k2 k3 (by rw [e1]; exact hce) hcv hcl T' rfl X'
    exact ⟨t2, st.trans a1, b1⟩
theorem vx_calll {S SX : Type} {post : Int64 → S → Prop} {px : SX → Prop} {B : S → State → Prop} {BX : String → SX → State → Prop} {AX : Nat → Prop} (hr : vx_Run p l e R s m args below meth c H locs cells slots mc ms (F0 m pc ls st0) rest (va_Ql post B A1 a) (vx_X px BX AX) free) (hS : va_S A0 H0 H locs) (hA : ∀ q, q < H.size → A1 q → A0 q) (hf : ∀ q, free q → A0 q) (hAX : ∀ q, q < H.size → AX q → A0 q)
    (kx : ∀ (E : String) (ce : Cell) (q9 : Addr) (u : SX) (t : State) (H1 : Heap) (locs1 : List Loc), t.heap = H1 → s.vm.Alike t.vm → px u → BX E u t → H.size ≤ H1.size → (∀ q : Nat, q < H.size → ¬ AX q → H1[q]? = H[q]?) → va_S A0 H0 H1 locs1 → H1[q9]? = some ce → ce.vm = .none → s.vm.findClass E = some ce.cls → vx_W p l e R s m args below meth c H1 locs1 (cells + mc) (slots + ms) Q (F0 m pc ls rest) q9)
    (kk : ∀ (r : Int64) (u : S) (t : State) (H1 : Heap) (locs1 : List Loc), t.heap = H1 → s.vm.Alike t.vm → post r u → B u t → H.size ≤ H1.size → (∀ q : Nat, q < H.size → ¬ A1 q → H1[q]? = H[q]?) → va_S A0 H0 H1 locs1 → W p l e R s m args below meth c H1 locs1 (cells + mc) (slots + ms) Q (F0 m (pc + 3) ls (.long r :: rest))) : W p l e R s m args below meth c H locs cells slots Q (F0 m pc ls st0) := by
  intro T hT X
  rcases hr T hT X with ⟨v, st₀, t, T', L, h0, X', hL, e1, e2, ⟨⟨r, u, hv, hp, hb⟩, hF⟩, st⟩ | ⟨q, st₀, t, T', L, E, ce, h0, X', hL, e1, e2, ⟨u, hp, hb, hF⟩, hce, hcv, hcl, st⟩
  · cases hv
    obtain ⟨k1, k2, k3⟩ := vx_keep h0 e1 hS hA hf hL hF
    obtain ⟨t2, a1, b1⟩ := kk r u t T'.heap (locs ++ L) e1.symm (by rw [← e2]; exact X'.warmed.alike) hp hb k1 k2 k3 T' rfl X'
    exact ⟨t2, st t2 a1, b1⟩
  · obtain ⟨k1, k2, k3⟩ := vx_keep h0 e1 hS hAX hf hL hF
    obtain ⟨t2, a1, b1⟩ := kx E ce q u t T'.heap (locs ++ L) e1.symm (by rw [← e2]; exact X'.warmed.alike) hp hb k1 k2 k3 (by rw [e1]; exact hce) hcv hcl T' rfl X'
    exact ⟨t2, st.trans a1, b1⟩
theorem vx_callf {S SX : Type} {post : UInt32 → S → Prop} {px : SX → Prop} {B : S → State → Prop} {BX : String → SX → State → Prop} {AX : Nat → Prop} (hr : vx_Run p l e R s m args below meth c H locs cells slots mc ms (F0 m pc ls st0) rest (va_Qf post B A1 a) (vx_X px BX AX) free) (hS : va_S A0 H0 H locs) (hA : ∀ q, q < H.size → A1 q → A0 q) (hf : ∀ q, free q → A0 q) (hAX : ∀ q, q < H.size → AX q → A0 q)
    (kx : ∀ (E : String) (ce : Cell) (q9 : Addr) (u : SX) (t : State) (H1 : Heap) (locs1 : List Loc), t.heap = H1 → s.vm.Alike t.vm → px u → BX E u t → H.size ≤ H1.size → (∀ q : Nat, q < H.size → ¬ AX q → H1[q]? = H[q]?) → va_S A0 H0 H1 locs1 → H1[q9]? = some ce → ce.vm = .none → s.vm.findClass E = some ce.cls → vx_W p l e R s m args below meth c H1 locs1 (cells + mc) (slots + ms) Q (F0 m pc ls rest) q9)
    (kk : ∀ (r : UInt32) (u : S) (t : State) (H1 : Heap) (locs1 : List Loc), t.heap = H1 → s.vm.Alike t.vm → post r u → B u t → H.size ≤ H1.size → (∀ q : Nat, q < H.size → ¬ A1 q → H1[q]? = H[q]?) → va_S A0 H0 H1 locs1 → W p l e R s m args below meth c H1 locs1 (cells + mc) (slots + ms) Q (F0 m (pc + 3) ls (.float r :: rest))) : W p l e R s m args below meth c H locs cells slots Q (F0 m pc ls st0) := by
  intro T hT X
  rcases hr T hT X with ⟨v, st₀, t, T', L, h0, X', hL, e1, e2, ⟨⟨r, u, hv, hp, hb⟩, hF⟩, st⟩ | ⟨q, st₀, t, T', L, E, ce, h0, X', hL, e1, e2, ⟨u, hp, hb, hF⟩, hce, hcv, hcl, st⟩
  · cases hv
    obtain ⟨k1, k2, k3⟩ := vx_keep h0 e1 hS hA hf hL hF
    obtain ⟨t2, a1, b1⟩ := kk r u t T'.heap (locs ++ L) e1.symm (by rw [← e2]; exact X'.warmed.alike) hp hb k1 k2 k3 T' rfl X'
    exact ⟨t2, st t2 a1, b1⟩
  · obtain ⟨k1, k2, k3⟩ := vx_keep h0 e1 hS hAX hf hL hF
    obtain ⟨t2, a1, b1⟩ := kx E ce q u t T'.heap (locs ++ L) e1.symm (by rw [← e2]; exact X'.warmed.alike) hp hb k1 k2 k3 (by rw [e1]; exact hce) hcv hcl T' rfl X'
    exact ⟨t2, st.trans a1, b1⟩
theorem vx_calld {S SX : Type} {post : UInt64 → S → Prop} {px : SX → Prop} {B : S → State → Prop} {BX : String → SX → State → Prop} {AX : Nat → Prop} (hr : vx_Run p l e R s m args below meth c H locs cells slots mc ms (F0 m pc ls st0) rest (va_Qd post B A1 a) (vx_X px BX AX) free) (hS : va_S A0 H0 H locs) (hA : ∀ q, q < H.size → A1 q → A0 q) (hf : ∀ q, free q → A0 q) (hAX : ∀ q, q < H.size → AX q → A0 q)
    (kx : ∀ (E : String) (ce : Cell) (q9 : Addr) (u : SX) (t : State) (H1 : Heap) (locs1 : List Loc), t.heap = H1 → s.vm.Alike t.vm → px u → BX E u t → H.size ≤ H1.size → (∀ q : Nat, q < H.size → ¬ AX q → H1[q]? = H[q]?) → va_S A0 H0 H1 locs1 → H1[q9]? = some ce → ce.vm = .none → s.vm.findClass E = some ce.cls → vx_W p l e R s m args below meth c H1 locs1 (cells + mc) (slots + ms) Q (F0 m pc ls rest) q9)
    (kk : ∀ (r : UInt64) (u : S) (t : State) (H1 : Heap) (locs1 : List Loc), t.heap = H1 → s.vm.Alike t.vm → post r u → B u t → H.size ≤ H1.size → (∀ q : Nat, q < H.size → ¬ A1 q → H1[q]? = H[q]?) → va_S A0 H0 H1 locs1 → W p l e R s m args below meth c H1 locs1 (cells + mc) (slots + ms) Q (F0 m (pc + 3) ls (.double r :: rest))) : W p l e R s m args below meth c H locs cells slots Q (F0 m pc ls st0) := by
  intro T hT X
  rcases hr T hT X with ⟨v, st₀, t, T', L, h0, X', hL, e1, e2, ⟨⟨r, u, hv, hp, hb⟩, hF⟩, st⟩ | ⟨q, st₀, t, T', L, E, ce, h0, X', hL, e1, e2, ⟨u, hp, hb, hF⟩, hce, hcv, hcl, st⟩
  · cases hv
    obtain ⟨k1, k2, k3⟩ := vx_keep h0 e1 hS hA hf hL hF
    obtain ⟨t2, a1, b1⟩ := kk r u t T'.heap (locs ++ L) e1.symm (by rw [← e2]; exact X'.warmed.alike) hp hb k1 k2 k3 T' rfl X'
    exact ⟨t2, st t2 a1, b1⟩
  · obtain ⟨k1, k2, k3⟩ := vx_keep h0 e1 hS hAX hf hL hF
    obtain ⟨t2, a1, b1⟩ := kx E ce q u t T'.heap (locs ++ L) e1.symm (by rw [← e2]; exact X'.warmed.alike) hp hb k1 k2 k3 (by rw [e1]; exact hce) hcv hcl T' rfl X'
    exact ⟨t2, st.trans a1, b1⟩
theorem vx_callv {S SX : Type} {post : S → Prop} {px : SX → Prop} {B : S → State → Prop} {BX : String → SX → State → Prop} {AX : Nat → Prop} (hr : vx_Run p l e R s m args below meth c H locs cells slots mc ms (F0 m pc ls st0) rest (va_Qv post B A1 a) (vx_X px BX AX) free) (hS : va_S A0 H0 H locs) (hA : ∀ q, q < H.size → A1 q → A0 q) (hf : ∀ q, free q → A0 q) (hAX : ∀ q, q < H.size → AX q → A0 q)
    (kx : ∀ (E : String) (ce : Cell) (q9 : Addr) (u : SX) (t : State) (H1 : Heap) (locs1 : List Loc), t.heap = H1 → s.vm.Alike t.vm → px u → BX E u t → H.size ≤ H1.size → (∀ q : Nat, q < H.size → ¬ AX q → H1[q]? = H[q]?) → va_S A0 H0 H1 locs1 → H1[q9]? = some ce → ce.vm = .none → s.vm.findClass E = some ce.cls → vx_W p l e R s m args below meth c H1 locs1 (cells + mc) (slots + ms) Q (F0 m pc ls rest) q9)
    (kk : ∀ (u : S) (t : State) (H1 : Heap) (locs1 : List Loc), t.heap = H1 → s.vm.Alike t.vm → post u → B u t → H.size ≤ H1.size → (∀ q : Nat, q < H.size → ¬ A1 q → H1[q]? = H[q]?) → va_S A0 H0 H1 locs1 → W p l e R s m args below meth c H1 locs1 (cells + mc) (slots + ms) Q (F0 m (pc + 3) ls (rest))) : W p l e R s m args below meth c H locs cells slots Q (F0 m pc ls st0) := by
  intro T hT X
  rcases hr T hT X with ⟨v, st₀, t, T', L, h0, X', hL, e1, e2, ⟨⟨u, hv, hp, hb⟩, hF⟩, st⟩ | ⟨q, st₀, t, T', L, E, ce, h0, X', hL, e1, e2, ⟨u, hp, hb, hF⟩, hce, hcv, hcl, st⟩
  · cases hv
    obtain ⟨k1, k2, k3⟩ := vx_keep h0 e1 hS hA hf hL hF
    obtain ⟨t2, a1, b1⟩ := kk u t T'.heap (locs ++ L) e1.symm (by rw [← e2]; exact X'.warmed.alike) hp hb k1 k2 k3 T' rfl X'
    exact ⟨t2, st t2 a1, b1⟩
  · obtain ⟨k1, k2, k3⟩ := vx_keep h0 e1 hS hAX hf hL hF
    obtain ⟨t2, a1, b1⟩ := kx E ce q u t T'.heap (locs ++ L) e1.symm (by rw [← e2]; exact X'.warmed.alike) hp hb k1 k2 k3 (by rw [e1]; exact hce) hcv hcl T' rfl X'
    exact ⟨t2, st.trans a1, b1⟩
/-- caught by the row x of this method's table; the rows ahead don't take it -/
theorem vx_catch {own name : String} {E : String} {ce : Cell} {q : Addr} (hown : s.vm.findClass own = some m.cls) (pre : List ExceptionTableEntry) (x : ExceptionTableEntry) (suf : List ExceptionTableEntry) (hsplit : c.exceptionTable.toList = pre ++ x :: suf)
    (hpass : ∀ z ∈ pre, covers z pc = false ∨ (z.catchType ≠ 0 ∧ ∃ nm : String, (Cond.classLink own z.catchType nm).before args s = true ∧ va_Nc E nm s)) (hx : covers x pc = true) (h0 : x.catchType ≠ 0)
    (hlink : (Cond.classLink own x.catchType name).before args s = true) (hcast : (Cond.castable E name).before args s = true) (hcell : H[q]? = some ce) (hv : ce.vm = .none) (hcl : s.vm.findClass E = some ce.cls)
    (kk : W p l e R s m args below meth c H locs cells slots Q (F0 m x.handlerPc ls [.ref q])) : vx_W p l e R s m args below meth c H locs cells slots Q (F0 m pc ls rest) q := by
  intro T hT X
  have hpl : e.platform.magicAccessors = ({} : Platform).magicAccessors := by rw [X.admits.platform]
  obtain ⟨c3, c4, hc3, hc4, hasg⟩ := Cond.castable_spec hcast
  cases Option.some.inj (hc3.symm.trans hcl)
  obtain ⟨c5, hc5, hcl5⟩ := Cond.classLink_spec hown hlink e.platform hpl
  cases Option.some.inj (hc4.symm.trans hc5)
  obtain ⟨vm', X', st⟩ := X.thenCaughtThrough q (g := F0 m pc ls rest) rfl (Steps.refl _) (by rw [hT]; exact hcell) (by rw [hv]; rfl) (by obtain ⟨k9, h9, -⟩ := Vm.findClass_spec hcl; exact ⟨k9, h9⟩) pre x suf hsplit
    (fun z hz => by
      rcases hpass z hz with h | ⟨hz0, nm, hl1, hn1⟩
      · exact Or.inl h
      · obtain ⟨c6, hc6, hcl6⟩ := Cond.classLink_spec hown hl1 e.platform hpl
        obtain ⟨a8, b8, h1, h2, h3⟩ := hn1
        cases Option.some.inj (h1.symm.trans hcl)
        cases Option.some.inj (h2.symm.trans hc6)
        exact Or.inr ⟨hz0, _, hcl6, h3⟩) hx (Or.inr ⟨h0, c4, hcl5, hasg⟩)
  obtain ⟨t, a1, b1⟩ := kk (T.setVm vm') hT X'
  exact ⟨t, st.trans a1, b1⟩
end Rows
section Ends
variable {p : Program} {l : Launch} {e : Env} {R : Room} {s : State} {m : MethodId} {args : Array Value} {below : List Frame} {meth : Method} {c : Code} {H : Heap} {locs : List Loc} {cells slots : Nat} {Q : State → Prop}
variable {mc ms : Nat} {free : Addr → Prop} {A0 A1 : Nat → Prop} {H0 : Heap} {a : Array Value} {ls : Array Slot} {st0 rest : List Value}
variable {Qc : Array Value → State → Outcome → State → Prop} {XC : String → State → State → Prop}
/-- what a body that may throw owes at its end -/
def vx_MQ (below : List Frame) (Qc : Array Value → State → Outcome → State → Prop) (XC : String → State → State → Prop) (a : Array Value) (s : State) (mc ms : Nat) (free : Addr → Prop) : State → Prop := fun t =>
  ∃ o, t.status = .running ∧ Ended t below o ∧ vx_Q Qc XC mc ms free a s o t
theorem vx_ret {g : JFrame} {mc ms : Nat} (k : W p l e R s m args below meth c H locs cells slots (MQ below Qc args s mc ms free) g) : W p l e R s m args below meth c H locs cells slots (vx_MQ below Qc XC args s mc ms free) g := by
  intro T hT X
  obtain ⟨t, a1, o, b1, b2, b3, b4⟩ := k T hT X
  exact ⟨t, a1, o, b1, b2, Or.inl ⟨b3, b4⟩⟩
/-- not caught here: it goes on to the caller -/
theorem vx_widen {g : JFrame} {q : Addr} {k n : Nat} (h1 : cells ≤ k) (h2 : slots ≤ n) (kk : vx_W p l e R s m args below meth c H locs k n Q g q) : vx_W p l e R s m args below meth c H locs cells slots Q g q := fun T hT X => kk T hT (stand_widen X h1 h2)
theorem vx_out {pc : Nat} {E : String} {ce : Cell} {q : Addr} {mc ms : Nat} (hout : ∀ x ∈ c.exceptionTable.toList, covers x pc = false) (hlocks : meth.locks = false) (hcell : H[q]? = some ce) (hv : ce.vm = .none) (hcl : s.vm.findClass E = some ce.cls)
    (hx : ∀ t : State, t.heap = H → s.vm.Alike t.vm → XC E s t) (hf : ∀ z ∈ locs, free z.base) (hc : cells ≤ mc) (hs : slots ≤ ms) :
    vx_W p l e R s m args below meth c H locs cells slots (vx_MQ below Qc XC args s mc ms free) (F0 m pc ls rest) q := by
  intro T hT X
  obtain ⟨st1, hrun, hend, hW, hsm⟩ := X.leaveThrown q (g := F0 m pc ls rest) rfl rfl rfl hout hlocks
  have hcell9 : (T.setFrames (.throwing q :: below)).heap[q]? = some ce := by
    show T.heap[q]? = some ce
    rw [hT]; exact hcell
  exact ⟨_, st1, .threw q, hrun, hend, Or.inr ⟨q, rfl, E, ce, locs, hx _ hT hW.alike, hcell9, hv, hcl, hW, hsm.mono hc hs, hf⟩⟩
theorem vx_frame {U : State} {k n : Nat} (h : s.sameButNew ({ U with vm := s.vm } : State) locs k n) : s.heap.size ≤ U.heap.size ∧ ∀ q : Nat, q < s.heap.size → (∀ z ∈ locs, z.base ≠ q) → U.heap[q]? = s.heap[q]? := by
  obtain ⟨-, h2, -, -, -, h6⟩ := h
  refine ⟨h2, fun q hq hz => ?_⟩
  obtain ⟨c9, e1, e2, e3, e4⟩ := h6 q _ (Array.getElem?_eq_getElem hq)
  have hs : c9.slots = (s.heap[q]).slots := Array.ext_getElem? fun i => e4 i fun hm => hz _ hm rfl
  have h9 : c9 = s.heap[q] := by
    rw [hs] at e2
    exact e2
  have e5 : U.heap[q]? = some c9 := e1
  rw [e5, h9, Array.getElem?_eq_getElem hq]
/-- the words of a throw but the four that speak of the heap -/
def vx_no (w : Cond) : Bool := decide (w ≠ .isRef (.static Bundle.tN "UNASSIGNED_STACK" Bundle.steD)) && decide (w ≠ .isRef (.static Bundle.tN "SUPPRESSED_SENTINEL" Bundle.listD)) && decide (w ≠ .laysStatic Bundle.tN "UNASSIGNED_STACK" Bundle.steD) && decide (w ≠ .laysStatic Bundle.tN "SUPPRESSED_SENTINEL" Bundle.listD)
def vx_at0 (own : String) (ic : Nat) (X : String) (names : List String) : List Cond := (Bundle.ownAtoms0 own ic X names).filter vx_no
def vx_atS (own : String) (ic : Nat) (X : String) (names : List String) : List Cond := (Bundle.ownAtoms own ic X names).filter vx_no
/-- a word that the tables alone decide, or a good one -/
def vx_ot (w : Cond) : Bool := w.onTables || goodWord w
theorem vx_ot_at {args a' : Array Value} {s U : State} {w : Cond} (hW : s.WarmedH U.vm) (hvm : s.vm = U.vm) (hg : vx_ot w = true) (h : w.before args s = true) : w.before a' U = true := by
  simp only [vx_ot, Bool.or_eq_true] at hg
  rcases hg with hg | hg
  · exact va_tabs hg hvm h
  · exact word_at hW (good_of_word hg) h
/-- a list's words: the good ones out of the method's own list, the others by premises of their own -/
theorem vx_hat {args : Array Value} {s : State} {L B : List Cond} (h1 : ∀ w ∈ L.filter goodWord, w.before args s = true) (h2 : ∀ w ∈ L.filter (fun w => !goodWord w), w ∈ B) (h3 : ∀ w ∈ B, w.before args s = true) : ∀ w ∈ L, w.before args s = true := by
  intro w hw
  by_cases g : goodWord w = true
  · exact h1 w (List.mem_filter.mpr ⟨hw, g⟩)
  · refine h3 w (h2 w (List.mem_filter.mpr ⟨hw, ?_⟩))
    show (!goodWord w) = true
    cases hgw : goodWord w
    · rfl
    · exact absurd hgw g
theorem vx_c {args : Array Value} {s : State} {w : Cond} {B : List Cond} (h : w.before args s = true) (t : ∀ w ∈ B, w.before args s = true) : ∀ w' ∈ w :: B, w'.before args s = true := fun w' h' => (List.mem_cons.mp h').elim (fun e => by rw [e]; exact h) (t w')
theorem vx_n {args : Array Value} {s : State} : ∀ w ∈ ([] : List Cond), w.before args s = true := fun _ h => nomatch h
theorem vx_own {args : Array Value} {s : State} {L : List Cond} (h1 : ∀ w ∈ L.filter vx_no, w.before args s = true)
    (hU : (Cond.isRef (.static Bundle.tN "UNASSIGNED_STACK" Bundle.steD)).before args s = true) (hN : (Cond.isRef (.static Bundle.tN "SUPPRESSED_SENTINEL" Bundle.listD)).before args s = true)
    (lU : (Cond.laysStatic Bundle.tN "UNASSIGNED_STACK" Bundle.steD).before args s = true) (lN : (Cond.laysStatic Bundle.tN "SUPPRESSED_SENTINEL" Bundle.listD).before args s = true) : ∀ w ∈ L, w.before args s = true := by
  intro w hw
  by_cases e1 : w = .isRef (.static Bundle.tN "UNASSIGNED_STACK" Bundle.steD)
  · rw [e1]; exact hU
  · by_cases e2 : w = .isRef (.static Bundle.tN "SUPPRESSED_SENTINEL" Bundle.listD)
    · rw [e2]; exact hN
    · by_cases e3 : w = .laysStatic Bundle.tN "UNASSIGNED_STACK" Bundle.steD
      · rw [e3]; exact lU
      · by_cases e4 : w = .laysStatic Bundle.tN "SUPPRESSED_SENTINEL" Bundle.listD
        · rw [e4]; exact lN
        · exact h1 w (List.mem_filter.mpr ⟨hw, by unfold vx_no; rw [decide_eq_true e1, decide_eq_true e2, decide_eq_true e3, decide_eq_true e4]; rfl⟩)
/-- where a static field lies, its class's statics cell in H -/
def vx_L (C n d : String) (A : Nat → Prop) (U : State) (H : Heap) : Prop := ∃ (c : ClassId) (k : Class) (i : Nat) (f : Field) (a : Nat) (cell : Cell), U.vm.findClass C = some c ∧ U.fieldFound? C n d = some (c, k, i, f) ∧ f.isStatic = true ∧ k.statics = some a ∧ H[a]? = some cell ∧ cell.vm.isStatics = true ∧ cell.cls = c ∧ f.slot < cell.slots.size ∧ k.staticTypes[f.slot]? = some f.type ∧ ¬ A a
theorem vx_L.moved {C n d : String} {A : Nat → Prop} {u U : State} {H : Heap} (hvm : u.vm.Alike U.vm) (h : vx_L C n d A u H) : vx_L C n d A U H := by
  obtain ⟨c, k, i, f, a, cell, h1, h2, h3, h4, h5, h6, h7, h8, h9, h10⟩ := h
  obtain ⟨k', hi', he⟩ := State.fieldFound?_setVm hvm h2
  exact ⟨c, k', i, f, a, cell, by rw [hvm.findClass]; exact h1, hi', h3, by rw [he]; exact h4, h5, h6, h7, h8, by rw [he]; exact h9, h10⟩
theorem vx_L.kept {C n d : String} {A : Nat → Prop} {U : State} {H H1 : Heap} (h : vx_L C n d A U H) (hq : ∀ a : Nat, a < H.size → ¬ A a → H1[a]? = H[a]?) : vx_L C n d A U H1 := by
  obtain ⟨c, k, i, f, a, cell, h1, h2, h3, h4, h5, h6, h7, h8, h9, h10⟩ := h
  exact ⟨c, k, i, f, a, cell, h1, h2, h3, h4, by rw [hq a (Array.getElem?_eq_some_iff.mp h5).1 h10]; exact h5, h6, h7, h8, h9, h10⟩
theorem vx_L.narrow {C n d : String} {A B : Nat → Prop} {U : State} {H : Heap} (h : vx_L C n d A U H) (hAB : ∀ q, B q → A q) : vx_L C n d B U H := by
  obtain ⟨c, k, i, f, a, cell, h1, h2, h3, h4, h5, h6, h7, h8, h9, h10⟩ := h
  exact ⟨c, k, i, f, a, cell, h1, h2, h3, h4, h5, h6, h7, h8, h9, fun z => h10 (hAB _ z)⟩
theorem vx_L.word {C n d : String} {A : Nat → Prop} {s : State} {args : Array Value} (h : vx_L C n d A s s.heap) : (Cond.laysStatic C n d).before args s = true := by
  obtain ⟨c, k, i, f, a, cell, h1, h2, h3, h4, h5, h6, h7, h8, h9, -⟩ := h
  show (Cond.laysStatic C n d).holds args s none s [] = true
  exact Cond.laysStatic_of h1 h2 h3 h4 h5 h6 h7 h8 h9
/-- .. and what it holds: null or some reference -/
def vx_Zq (C n d : String) (A : Nat → Prop) (U : State) (H : Heap) : Prop := va_Zq C n d A U H ∧ vx_L C n d A U H
theorem vx_Zq.moved {C n d : String} {A : Nat → Prop} {u U : State} {H : Heap} (hvm : u.vm.Alike U.vm) (h : vx_Zq C n d A u H) : vx_Zq C n d A U H := ⟨va_Zq.moved hvm h.1, vx_L.moved hvm h.2⟩
theorem vx_Zq.kept {C n d : String} {A : Nat → Prop} {U : State} {H H1 : Heap} (h : vx_Zq C n d A U H) (hq : ∀ a : Nat, a < H.size → ¬ A a → H1[a]? = H[a]?) : vx_Zq C n d A U H1 := ⟨va_Zq.kept h.1 hq, vx_L.kept h.2 hq⟩
theorem vx_Zq.narrow {C n d : String} {A B : Nat → Prop} {U : State} {H : Heap} (h : vx_Zq C n d A U H) (hAB : ∀ q, B q → A q) : vx_Zq C n d B U H := ⟨va_Zq.narrow h.1 hAB, vx_L.narrow h.2 hAB⟩
theorem vx_Zqof {args : Array Value} {s : State} {C n d : String} {A : Nat → Prop} (hl : (Cond.laysStatic C n d).before args s = true) (hini : (Cond.initialized C).before args s = true) (h : (Cond.isRef (.static C n d)).before args s = true) (hA : ∀ a : Nat, a < s.heap.size → ¬ A a) : vx_Zq C n d A s s.heap := by
  refine ⟨va_Zqof hl hini h hA, ?_⟩
  obtain ⟨c, k, i, f, a, cell, h1, h2, h3, h4, h5, h6, h7, h8, h9⟩ := Cond.laysStatic_spec hl
  exact ⟨c, k, i, f, a, cell, h1, h2, h3, h4, h5, h6, h7, h8, h9, hA a (Array.getElem?_eq_some_iff.mp h5).1⟩
theorem vx_isRef {C n d : String} {v : Value} {A : Nat → Prop} {s : State} {args : Array Value} (h : va_Z C n d v A s s.heap) (hv : v.isRef = true) : (Cond.isRef (.static C n d)).before args s = true := by
  obtain ⟨cf, kf, fi, f, a, cell, h1, h2, h3, h4, h5, h6, h7, -⟩ := h
  have he : (Term.static C n d).eval args s none [] s = some v := by
    simp [Term.eval, State.fieldNamed?, h1, h2, h4, h5, h6, h7]
  simp only [Cond.before, Cond.holds, Cond.value, he]
  cases v <;> simp_all [Value.isRef]
theorem vx_isRefq {C n d : String} {A : Nat → Prop} {s : State} {args : Array Value} (h : va_Zq C n d A s s.heap) : (Cond.isRef (.static C n d)).before args s = true := by
  rcases h with h | ⟨t, h⟩
  · exact vx_isRef h rfl
  · exact vx_isRef h rfl
/-- the same frame, seen from here: as if the method were called anew in this heap -/
theorem vx_rebase {T : State} (X : Stand p l e R s m args below meth c T locs cells slots) {R' : Room} (hf : R'.frames ≤ R.frames) (hl : R'.locals ≤ R.locals) (hc : cells + R'.cells ≤ R.cells) (hs : slots + R'.slots ≤ R.slots) :
    Stand p l e R' ((T.setVm s.vm).setFrames (.invoking m args :: below)) m args below meth c T [] 0 0 := by
  have htop : (T.setVm s.vm).topJava?.isSome := X.here.top
  have hF : ((T.setVm s.vm).setFrames (.invoking m args :: below)).frames = .invoking m args :: below := State.frames_setFrames _ (State.cur_lt_of_top htop)
  obtain ⟨g₀, hg0⟩ := Option.isSome_iff_exists.mp htop
  obtain ⟨r, hr⟩ := State.topJava?_eq_some.mp hg0
  have hl9 : e.platform.stackLimits (T.setVm s.vm).me = e.platform.stackLimits s.me := X.limits
  have hb9 : (T.setVm s.vm).me.stackBytes = s.me.stackBytes := X.bytes
  refine ⟨X.admits, X.cas, X.clock, hF, ?_, X.hears, X.method, X.code, X.here, X.tail, X.warmed, ?_, ?_, ?_⟩
  · have h := X.room
    have hU : ((T.setVm s.vm).setFrames (.invoking m args :: below)).localsInUse = s.localsInUse := by
      rw [State.localsInUse_invoking hF (meth := meth) (c := c) X.method X.code, State.localsInUse_invoking X.frames X.method X.code]
    simp only [State.hasRoom, Bool.and_eq_true, decide_eq_true_eq] at h ⊢
    obtain ⟨⟨⟨⟨h1, h2, h3, h4, h5, h6⟩, h7⟩, h8⟩, h9⟩ := h
    rw [X.frames, List.length_cons] at h2 h3
    have q1 := X.heapSize
    have q2 := X.used
    simp only [hF, hU, List.length_cons, State.stackLimits_setFrames, State.stackBytes_setFrames, hl9, hb9]
    refine ⟨⟨⟨⟨by omega, by omega, by omega, by omega, by omega, h6⟩, ?_⟩, ?_⟩, X.book⟩
    · show T.heap.size + R'.cells ≤ e.platform.maxCells
      omega
    · show T.slotsUsed + R'.slots ≤ e.platform.maxSlots
      omega
  · rw [State.stackLimits_setFrames]; rfl
  · rw [State.stackBytes_setFrames]; rfl
  · refine ⟨?_, Nat.le_refl _, Nat.le_refl _, ?_, ?_, fun a c9 h9 => ⟨c9, h9, rfl, rfl, fun _ _ => rfl⟩⟩
    · obtain ⟨t, ht, -⟩ := State.frames_cons hr
      show T.setVm s.vm = { ((T.setVm s.vm).setFrames (.invoking m args :: below)).setFrames (T.setVm s.vm).frames with heap := T.heap, slotsUsed := T.slotsUsed }
      rw [State.setFrames_setFrames, State.setFrames_self ht]
      rfl
    · show T.slotsUsed = T.slotsUsed + ((T.heap.toList.drop T.heap.size).map (·.slots.size)).sum
      rw [List.drop_eq_nil_of_le (Nat.le_of_eq Array.length_toList)]
      rfl
    · show ((T.heap.toList.drop T.heap.size).map (·.slots.size)).sum ≤ 0
      rw [List.drop_eq_nil_of_le (Nat.le_of_eq Array.length_toList)]
      exact Nat.le_refl _
/-- 'throw new E()': new; dup; invokespecial; athrow -/
theorem vx_throw0 {cc : ByteArray} {pc : Nat} (hexec : p.tables.exec = Jvm.exec) (hb : c.code = cc) (hl : l.stackTraces = false) {own cls : String} {names : List String} {ik ic mc ms : Nat} {A : Nat → Prop}
    (hown : s.vm.findClass own = some m.cls) (hcls : Bundle.fit cls = true) (hnames : ∀ n ∈ names, Bundle.fit n = true)
    (hk : (Cond.classLink own ik cls).before args s = true) (hini : (Cond.initialized cls).before args s = true) (hat : ∀ w ∈ vx_at0 own ic cls names, w.before args s = true)
    (hgood : ∀ w ∈ Cond.classLink own ik cls :: Cond.initialized cls :: vx_at0 own ic cls names, vx_ot w = true)
    (hU : vx_Zq Bundle.tN "UNASSIGNED_STACK" Bundle.steD A s s.heap) (hN : vx_Zq Bundle.tN "SUPPRESSED_SENTINEL" Bundle.listD A s s.heap) (hS : va_S A s.heap H locs) (hsize : ls.size = c.maxLocals)
    (d0 : decode cc pc = .ok (.new ik, 3)) (d3 : decode cc (pc + 3) = .ok (.dup, 1)) (d4 : decode cc (pc + 4) = .ok (.invokespecial ic, 3)) (d7 : decode cc (pc + 7) = .ok (.athrow, 1))
    (hout : ∀ x ∈ c.exceptionTable.toList, covers x (pc + 7) = false)
    (hRframes : names.length + 3 < R.frames) (hRlocals : (rest.map fun v => v.category).sum + (13 * (names.length + 1) + 42) ≤ R.locals) (hRcells : cells + 1 ≤ R.cells) (hRslots : slots + 6 ≤ R.slots) (hlocks : meth.locks = false)
    (hx : ∀ t : State, s.vm.Alike t.vm → H.size ≤ t.heap.size → (∀ q : Nat, q < H.size → t.heap[q]? = H[q]?) → XC cls s t)
    (hf : ∀ z ∈ locs, free z.base) (hc : cells + 1 ≤ mc) (hs : slots + 6 ≤ ms) :
    W p l e R s m args below meth c H locs cells slots (vx_MQ below Qc XC args s mc ms free) (F0 m pc ls rest) := by
  intro T hT X
  have htr : e.platform.stackTraces = false := (show e.platform.stackTraces = l.stackTraces by rw [X.admits.platform]).trans hl
  have Y := vx_rebase X (R' := { frames := R.frames, locals := R.locals, cells := 1, slots := 6 }) (Nat.le_refl _) (Nat.le_refl _) hRcells hRslots
  obtain ⟨s', hA⟩ : ∃ z, z = (T.setVm s.vm).setFrames (.invoking m args :: below) := ⟨_, rfl⟩
  rw [← hA] at Y
  have hvm : s'.vm = s.vm := by rw [hA]; rfl
  have hhp : s'.heap = H := by rw [hA]; exact hT
  have hW0 : s.WarmedH s'.vm := by rw [hvm]; exact State.WarmedH.refl s
  have hat' : ∀ w ∈ vx_at0 own ic cls names, w.before args s' = true := fun w hw => vx_ot_at hW0 hvm.symm (hgood w (List.mem_cons_of_mem _ (List.mem_cons_of_mem _ hw))) (hat w hw)
  have hk' : (Cond.classLink own ik cls).before args s' = true := vx_ot_at hW0 hvm.symm (hgood _ List.mem_cons_self) hk
  have hini' : (Cond.initialized cls).before args s' = true := vx_ot_at hW0 hvm.symm (hgood _ (List.mem_cons_of_mem _ List.mem_cons_self)) hini
  have hU' : vx_Zq Bundle.tN "UNASSIGNED_STACK" Bundle.steD A s' s'.heap := by rw [hhp]; exact vx_Zq.moved hW0.alike (hU.kept hS.2.1)
  have hN' : vx_Zq Bundle.tN "SUPPRESSED_SENTINEL" Bundle.listD A s' s'.heap := by rw [hhp]; exact vx_Zq.moved hW0.alike (hN.kept hS.2.1)
  have h : ∀ w ∈ Bundle.ownAtoms0 own ic cls names, w.before args s' = true := vx_own hat' (vx_isRefq hU'.1) (vx_isRefq hN'.1) hU'.2.word hN'.2.word
  have hown' : s'.vm.findClass own = some m.cls := by rw [hvm]; exact hown
  have hins : (Cond.instantiable cls 6).before args s' = true := h _ (by simp [Bundle.ownAtoms0])
  obtain ⟨vm₁, cX, kX, hfX, hkX, -, -, X₁, st1⟩ := Y.newCold hexec (own := own) (C := cls) (index := ik) (n := 6) hown' hk' hins hini'
    (g := F0 m pc ls rest) rfl (by rw [hb]; exact d0) (Nat.le_refl _) (Nat.le_refl _)
  generalize hT1 : (T.setVm vm₁).pushCell { cls := cX, slots := kX.instanceTypes.map defaultValue, vm := .none } = T1 at X₁ st1
  have hcat : (Value.ref T.heap.size).category = 1 := rfl
  have hcellA : T1.heap[T.heap.size]? = some (freshCell cX kX) := by rw [← hT1]; exact State.heap_pushCell_size _ _
  have d3' : decode c.code (pc + 3) = .ok (.dup, 1) := by rw [hb]; exact d3
  obtain ⟨U, hsteps, hrun, hend, hW, hsame, ce, hce, hO⟩ := X₁.ctorThrow0 hexec htr (own := own) (cls := cls) (names := names) (ic := ic) hown' hcls hnames h (fun x hx => nomatch hx) hfX hkX hcellA (by rw [hhp, hT]; exact Nat.le_refl _)
    (g := { method := m, pc := pc + 4, locals := ls, stack := .ref T.heap.size :: .ref T.heap.size :: rest, locked := none }) rfl hsize rfl rfl (rest := rest) rfl
    (by rw [hb]; exact d4) (by rw [hb]; exact d7) hout hRframes (by simp only [List.map_cons, List.sum_cons, hcat]; omega) hlocks
  obtain ⟨f1, f2⟩ := vx_frame hsame
  rw [hhp] at f1 f2
  have hWs : s.WarmedH U.vm := State.WarmedH.trans hW0 hW
  have hcl : s.vm.findClass cls = some ce.cls := by
    have h9 := hO.cls
    rw [hvm] at h9
    exact h9
  have hall : s.sameButNew ({ U with vm := s.vm } : State) locs mc ms := by
    subst hA
    obtain ⟨e1, e2⟩ := hsame
    rw [State.setFrames_setFrames] at e1
    have h2 : (T.setVm s.vm).sameButNew ({ U with vm := s.vm } : State) [] (0 + 1) (0 + 6) := ⟨e1, e2⟩
    have h3 := X.same.trans h2
    rw [List.append_nil] at h3
    exact h3.mono hc hs
  refine ⟨U, ?_, .threw T.heap.size, hrun, hend, Or.inr ⟨T.heap.size, rfl, cls, ce, locs, hx U hWs.alike f1 (fun q hq => f2 q hq (fun z hz => nomatch hz)), hce, hO.vm, hcl, hWs, hall, hf⟩⟩
  refine st1 _ ?_
  show Steps p.tables e below (T1.setTop { method := m, pc := pc + 3, locals := ls, stack := .ref T.heap.size :: rest, locked := none }) _
  jvm_step X₁.here [X₁.here.top, hexec, d3', Value.category]
  exact hsteps
/-- 'throw new E("text")': new; dup; ldc; invokespecial; athrow -/
theorem vx_throwS {cc : ByteArray} {pc : Nat} (hexec : p.tables.exec = Jvm.exec) (hb : c.code = cc) (hl : l.stackTraces = false) {own cls text : String} {names : List String} {ik is ic mc ms sa : Nat} {A : Nat → Prop}
    (hown : s.vm.findClass own = some m.cls) (hcls : Bundle.fit cls = true) (hnames : ∀ n ∈ names, Bundle.fit n = true)
    (hk : (Cond.classLink own ik cls).before args s = true) (hini : (Cond.initialized cls).before args s = true) (hstr : vk_R own is text sa s) (hat : ∀ w ∈ vx_atS own ic cls names, w.before args s = true)
    (hgood : ∀ w ∈ Cond.classLink own ik cls :: Cond.initialized cls :: vx_atS own ic cls names, vx_ot w = true)
    (hU : vx_Zq Bundle.tN "UNASSIGNED_STACK" Bundle.steD A s s.heap) (hN : vx_Zq Bundle.tN "SUPPRESSED_SENTINEL" Bundle.listD A s s.heap) (hS : va_S A s.heap H locs) (hsize : ls.size = c.maxLocals)
    (d0 : decode cc pc = .ok (.new ik, 3)) (d3 : decode cc (pc + 3) = .ok (.dup, 1)) (d4 : decode cc (pc + 4) = .ok (.ldc is, 2)) (d6 : decode cc (pc + 6) = .ok (.invokespecial ic, 3)) (d9 : decode cc (pc + 9) = .ok (.athrow, 1))
    (hout : ∀ x ∈ c.exceptionTable.toList, covers x (pc + 9) = false)
    (hRframes : names.length + 3 < R.frames) (hRlocals : (rest.map fun v => v.category).sum + (13 * (names.length + 1) + 43) ≤ R.locals) (hRcells : cells + 1 ≤ R.cells) (hRslots : slots + 6 ≤ R.slots) (hlocks : meth.locks = false)
    (hx : ∀ t : State, s.vm.Alike t.vm → H.size ≤ t.heap.size → (∀ q : Nat, q < H.size → t.heap[q]? = H[q]?) → XC cls s t)
    (hf : ∀ z ∈ locs, free z.base) (hc : cells + 1 ≤ mc) (hs : slots + 6 ≤ ms) :
    W p l e R s m args below meth c H locs cells slots (vx_MQ below Qc XC args s mc ms free) (F0 m pc ls rest) := by
  intro T hT X
  have htr : e.platform.stackTraces = false := (show e.platform.stackTraces = l.stackTraces by rw [X.admits.platform]).trans hl
  have Y := vx_rebase X (R' := { frames := R.frames, locals := R.locals, cells := 1, slots := 6 }) (Nat.le_refl _) (Nat.le_refl _) hRcells hRslots
  obtain ⟨s', hA⟩ : ∃ z, z = (T.setVm s.vm).setFrames (.invoking m args :: below) := ⟨_, rfl⟩
  rw [← hA] at Y
  have hvm : s'.vm = s.vm := by rw [hA]; rfl
  have hhp : s'.heap = H := by rw [hA]; exact hT
  have hW0 : s.WarmedH s'.vm := by rw [hvm]; exact State.WarmedH.refl s
  have hat' : ∀ w ∈ vx_atS own ic cls names, w.before args s' = true := fun w hw => vx_ot_at hW0 hvm.symm (hgood w (List.mem_cons_of_mem _ (List.mem_cons_of_mem _ hw))) (hat w hw)
  have hk' : (Cond.classLink own ik cls).before args s' = true := vx_ot_at hW0 hvm.symm (hgood _ List.mem_cons_self) hk
  have hini' : (Cond.initialized cls).before args s' = true := vx_ot_at hW0 hvm.symm (hgood _ (List.mem_cons_of_mem _ List.mem_cons_self)) hini
  have hU' : vx_Zq Bundle.tN "UNASSIGNED_STACK" Bundle.steD A s' s'.heap := by rw [hhp]; exact vx_Zq.moved hW0.alike (hU.kept hS.2.1)
  have hN' : vx_Zq Bundle.tN "SUPPRESSED_SENTINEL" Bundle.listD A s' s'.heap := by rw [hhp]; exact vx_Zq.moved hW0.alike (hN.kept hS.2.1)
  have h : ∀ w ∈ Bundle.ownAtoms own ic cls names, w.before args s' = true := vx_own hat' (vx_isRefq hU'.1) (vx_isRefq hN'.1) hU'.2.word hN'.2.word
  have hown' : s'.vm.findClass own = some m.cls := by rw [hvm]; exact hown
  have hins : (Cond.instantiable cls 6).before args s' = true := h _ (by simp [Bundle.ownAtoms])
  obtain ⟨vm₁, cX, kX, hfX, hkX, -, -, X₁, st1⟩ := Y.newCold hexec (own := own) (C := cls) (index := ik) (n := 6) hown' hk' hins hini'
    (g := F0 m pc ls rest) rfl (by rw [hb]; exact d0) (Nat.le_refl _) (Nat.le_refl _)
  generalize hT1 : (T.setVm vm₁).pushCell { cls := cX, slots := kX.instanceTypes.map defaultValue, vm := .none } = T1 at X₁ st1
  have hcat : (Value.ref T.heap.size).category = 1 := rfl
  have hcellA : T1.heap[T.heap.size]? = some (freshCell cX kX) := by rw [← hT1]; exact State.heap_pushCell_size _ _
  have d3' : decode c.code (pc + 3) = .ok (.dup, 1) := by rw [hb]; exact d3
  have d4' : decode c.code (pc + 4) = .ok (.ldc is, 2) := by rw [hb]; exact d4
  have hstr' : vk_R own is text sa s' := vk_R.warm hW0 hstr
  obtain ⟨U, hsteps, hrun, hend, hW, hsame, ce, hce, hO⟩ := X₁.ctorThrowS hexec htr (own := own) (cls := cls) (names := names) (ic := ic) hown' hcls hnames h (fun x hx => nomatch hx) hfX hkX hcellA (by rw [hhp, hT]; exact Nat.le_refl _) (msg := .ref sa) rfl
    (g := { method := m, pc := pc + 6, locals := ls, stack := .ref sa :: .ref T.heap.size :: .ref T.heap.size :: rest, locked := none }) rfl hsize rfl rfl (rest := rest) rfl
    (by rw [hb]; exact d6) (by rw [hb]; exact d9) hout hRframes (by simp only [List.map_cons, List.sum_cons, hcat]; omega) hlocks
  obtain ⟨f1, f2⟩ := vx_frame hsame
  rw [hhp] at f1 f2
  have hWs : s.WarmedH U.vm := State.WarmedH.trans hW0 hW
  have hcl : s.vm.findClass cls = some ce.cls := by
    have h9 := hO.cls
    rw [hvm] at h9
    exact h9
  have hall : s.sameButNew ({ U with vm := s.vm } : State) locs mc ms := by
    subst hA
    obtain ⟨e1, e2⟩ := hsame
    rw [State.setFrames_setFrames] at e1
    have h2 : (T.setVm s.vm).sameButNew ({ U with vm := s.vm } : State) [] (0 + 1) (0 + 6) := ⟨e1, e2⟩
    have h3 := X.same.trans h2
    rw [List.append_nil] at h3
    exact h3.mono hc hs
  refine ⟨U, ?_, .threw T.heap.size, hrun, hend, Or.inr ⟨T.heap.size, rfl, cls, ce, locs, hx U hWs.alike f1 (fun q hq => f2 q hq (fun z hz => nomatch hz)), hce, hO.vm, hcl, hWs, hall, hf⟩⟩
  refine st1 _ ?_
  show Steps p.tables e below (T1.setTop { method := m, pc := pc + 3, locals := ls, stack := .ref T.heap.size :: rest, locked := none }) _
  jvm_step X₁.here [X₁.here.top, hexec, d3', Value.category]
  exact X₁.ldcString hexec (own := own) (text := text) (index := is) (a := sa) hown' hstr'.1 hstr'.2
    (g := { method := m, pc := pc + 4, locals := ls, stack := .ref T.heap.size :: .ref T.heap.size :: rest, locked := none }) rfl d4' _ hsteps
/-- 'throw new E("text")', the text by a wide index -/
theorem vx_throwSW {cc : ByteArray} {pc : Nat} (hexec : p.tables.exec = Jvm.exec) (hb : c.code = cc) (hl : l.stackTraces = false) {own cls text : String} {names : List String} {ik is ic mc ms sa : Nat} {A : Nat → Prop}
    (hown : s.vm.findClass own = some m.cls) (hcls : Bundle.fit cls = true) (hnames : ∀ n ∈ names, Bundle.fit n = true)
    (hk : (Cond.classLink own ik cls).before args s = true) (hini : (Cond.initialized cls).before args s = true) (hstr : vk_R own is text sa s) (hat : ∀ w ∈ vx_atS own ic cls names, w.before args s = true)
    (hgood : ∀ w ∈ Cond.classLink own ik cls :: Cond.initialized cls :: vx_atS own ic cls names, vx_ot w = true)
    (hU : vx_Zq Bundle.tN "UNASSIGNED_STACK" Bundle.steD A s s.heap) (hN : vx_Zq Bundle.tN "SUPPRESSED_SENTINEL" Bundle.listD A s s.heap) (hS : va_S A s.heap H locs) (hsize : ls.size = c.maxLocals)
    (d0 : decode cc pc = .ok (.new ik, 3)) (d3 : decode cc (pc + 3) = .ok (.dup, 1)) (d4 : decode cc (pc + 4) = .ok (.ldc_w is, 3)) (d7 : decode cc (pc + 7) = .ok (.invokespecial ic, 3)) (d10 : decode cc (pc + 10) = .ok (.athrow, 1))
    (hout : ∀ x ∈ c.exceptionTable.toList, covers x (pc + 10) = false)
    (hRframes : names.length + 3 < R.frames) (hRlocals : (rest.map fun v => v.category).sum + (13 * (names.length + 1) + 43) ≤ R.locals) (hRcells : cells + 1 ≤ R.cells) (hRslots : slots + 6 ≤ R.slots) (hlocks : meth.locks = false)
    (hx : ∀ t : State, s.vm.Alike t.vm → H.size ≤ t.heap.size → (∀ q : Nat, q < H.size → t.heap[q]? = H[q]?) → XC cls s t)
    (hf : ∀ z ∈ locs, free z.base) (hc : cells + 1 ≤ mc) (hs : slots + 6 ≤ ms) :
    W p l e R s m args below meth c H locs cells slots (vx_MQ below Qc XC args s mc ms free) (F0 m pc ls rest) := by
  intro T hT X
  have htr : e.platform.stackTraces = false := (show e.platform.stackTraces = l.stackTraces by rw [X.admits.platform]).trans hl
  have Y := vx_rebase X (R' := { frames := R.frames, locals := R.locals, cells := 1, slots := 6 }) (Nat.le_refl _) (Nat.le_refl _) hRcells hRslots
  obtain ⟨s', hA⟩ : ∃ z, z = (T.setVm s.vm).setFrames (.invoking m args :: below) := ⟨_, rfl⟩
  rw [← hA] at Y
  have hvm : s'.vm = s.vm := by rw [hA]; rfl
  have hhp : s'.heap = H := by rw [hA]; exact hT
  have hW0 : s.WarmedH s'.vm := by rw [hvm]; exact State.WarmedH.refl s
  have hat' : ∀ w ∈ vx_atS own ic cls names, w.before args s' = true := fun w hw => vx_ot_at hW0 hvm.symm (hgood w (List.mem_cons_of_mem _ (List.mem_cons_of_mem _ hw))) (hat w hw)
  have hk' : (Cond.classLink own ik cls).before args s' = true := vx_ot_at hW0 hvm.symm (hgood _ List.mem_cons_self) hk
  have hini' : (Cond.initialized cls).before args s' = true := vx_ot_at hW0 hvm.symm (hgood _ (List.mem_cons_of_mem _ List.mem_cons_self)) hini
  have hU' : vx_Zq Bundle.tN "UNASSIGNED_STACK" Bundle.steD A s' s'.heap := by rw [hhp]; exact vx_Zq.moved hW0.alike (hU.kept hS.2.1)
  have hN' : vx_Zq Bundle.tN "SUPPRESSED_SENTINEL" Bundle.listD A s' s'.heap := by rw [hhp]; exact vx_Zq.moved hW0.alike (hN.kept hS.2.1)
  have h : ∀ w ∈ Bundle.ownAtoms own ic cls names, w.before args s' = true := vx_own hat' (vx_isRefq hU'.1) (vx_isRefq hN'.1) hU'.2.word hN'.2.word
  have hown' : s'.vm.findClass own = some m.cls := by rw [hvm]; exact hown
  have hins : (Cond.instantiable cls 6).before args s' = true := h _ (by simp [Bundle.ownAtoms])
  obtain ⟨vm₁, cX, kX, hfX, hkX, -, -, X₁, st1⟩ := Y.newCold hexec (own := own) (C := cls) (index := ik) (n := 6) hown' hk' hins hini'
    (g := F0 m pc ls rest) rfl (by rw [hb]; exact d0) (Nat.le_refl _) (Nat.le_refl _)
  generalize hT1 : (T.setVm vm₁).pushCell { cls := cX, slots := kX.instanceTypes.map defaultValue, vm := .none } = T1 at X₁ st1
  have hcat : (Value.ref T.heap.size).category = 1 := rfl
  have hcellA : T1.heap[T.heap.size]? = some (freshCell cX kX) := by rw [← hT1]; exact State.heap_pushCell_size _ _
  have d3' : decode c.code (pc + 3) = .ok (.dup, 1) := by rw [hb]; exact d3
  have d4' : decode c.code (pc + 4) = .ok (.ldc_w is, 3) := by rw [hb]; exact d4
  have hstr' : vk_R own is text sa s' := vk_R.warm hW0 hstr
  obtain ⟨U, hsteps, hrun, hend, hW, hsame, ce, hce, hO⟩ := X₁.ctorThrowS hexec htr (own := own) (cls := cls) (names := names) (ic := ic) hown' hcls hnames h (fun x hx => nomatch hx) hfX hkX hcellA (by rw [hhp, hT]; exact Nat.le_refl _) (msg := .ref sa) rfl
    (g := { method := m, pc := pc + 7, locals := ls, stack := .ref sa :: .ref T.heap.size :: .ref T.heap.size :: rest, locked := none }) rfl hsize rfl rfl (rest := rest) rfl
    (by rw [hb]; exact d7) (by rw [hb]; exact d10) hout hRframes (by simp only [List.map_cons, List.sum_cons, hcat]; omega) hlocks
  obtain ⟨f1, f2⟩ := vx_frame hsame
  rw [hhp] at f1 f2
  have hWs : s.WarmedH U.vm := State.WarmedH.trans hW0 hW
  have hcl : s.vm.findClass cls = some ce.cls := by
    have h9 := hO.cls
    rw [hvm] at h9
    exact h9
  have hall : s.sameButNew ({ U with vm := s.vm } : State) locs mc ms := by
    subst hA
    obtain ⟨e1, e2⟩ := hsame
    rw [State.setFrames_setFrames] at e1
    have h2 : (T.setVm s.vm).sameButNew ({ U with vm := s.vm } : State) [] (0 + 1) (0 + 6) := ⟨e1, e2⟩
    have h3 := X.same.trans h2
    rw [List.append_nil] at h3
    exact h3.mono hc hs
  refine ⟨U, ?_, .threw T.heap.size, hrun, hend, Or.inr ⟨T.heap.size, rfl, cls, ce, locs, hx U hWs.alike f1 (fun q hq => f2 q hq (fun z hz => nomatch hz)), hce, hO.vm, hcl, hWs, hall, hf⟩⟩
  refine st1 _ ?_
  show Steps p.tables e below (T1.setTop { method := m, pc := pc + 3, locals := ls, stack := .ref T.heap.size :: rest, locked := none }) _
  jvm_step X₁.here [X₁.here.top, hexec, d3', Value.category]
  exact X₁.ldcStringW hexec (own := own) (text := text) (index := is) (a := sa) hown' hstr'.1 hstr'.2
    (g := { method := m, pc := pc + 4, locals := ls, stack := .ref T.heap.size :: .ref T.heap.size :: rest, locked := none }) rfl d4' _ hsteps
end Ends
section Bodies
variable {l : Launch}
theorem vx_ofW {y : MethodName} {ws ws' : List Cond} {rm : Room} {Pc : Array Value → State → Prop} {Qc : Array Value → State → Outcome → State → Prop} {XC : String → State → State → Prop} {mc ms : Nat} {free : Addr → Prop} {cc : ByteArray} {maxL : Nat} {ret : Option FieldType}
    (hy : plainName y.cls = true) (hw : ws = Cond.code y cc maxL ret :: ws')
    (body : ∀ p e s m args below meth c s₁, BodyLoose p l y (headSpec ws rm) cc maxL ret e s m args below meth c s₁ → c.maxLocals = maxL → (∀ x ∈ c.exceptionTable.toList, False) → Pc args s →
      W p l e (headSpec ws rm).room s m args below meth c s.heap [] 0 0 (vx_MQ below Qc XC args s mc ms free) (entryFrame m args maxL)) : vx_Met l y ws rm Pc Qc XC mc ms free := by
  refine MetFree.of_bodyS (code := cc) (maxLocals := maxL) (ret := ret) hy ?_ ?_
  · intro args s m h hn
    obtain ⟨meth, c, h1, h2, h3, h4, h5, h6, -, -⟩ := Cond.code_spec hn (atoms_spec (ws := ws) h _ (by rw [hw]; exact List.mem_cons_self))
    exact ⟨meth, c, h1, h2, h3, h4, h5, h6⟩
  · intro p e s m args below meth c s₁ B hml hP _
    have hh0 : s₁.heap = s.heap := by rw [B.state]; rfl
    have ht : ∀ x ∈ c.exceptionTable.toList, False := by
      obtain ⟨meth9, c9, h1, h2, -, -, -, -, h7, -⟩ := Cond.code_spec B.named (atoms_spec (ws := ws) B.pre _ (by rw [hw]; exact List.mem_cons_self))
      cases Option.some.inj (h1.symm.trans B.method)
      cases Option.some.inj (h2.symm.trans (Stand.of_body B).code)
      intro x hx
      rw [Array.isEmpty_iff.mp h7] at hx
      cases hx
    obtain ⟨t, a1, o, b1, b2, b3⟩ := body p e s m args below meth c s₁ B hml ht hP s₁ hh0 (Stand.of_body B)
    exact ⟨t, o, a1, b1, b2, b3⟩
/-- the table of a body with handlers -/
theorem vx_table {p : Program} {x y : MethodName} {S : Spec} {cc bytes : ByteArray} {maxL maxL' : Nat} {ret ret' : Option FieldType} {e : Env} {s s₁ : State} {m : MethodId} {args : Array Value} {below : List Frame} {meth : Method} {c : Code} {hh : List (Nat × Nat × Nat × Nat)}
    (B : BodyLoose p l y S cc maxL ret e s m args below meth c s₁) (h : (Cond.codeWith y bytes maxL' ret' hh).before args s = true) : c.exceptionTable.toList = tableOf hh := by
  obtain ⟨m9, meth9, c9, hn9, h1, h2, -, -, h6, -⟩ := Cond.codeWith_spec h
  cases Option.some.inj (hn9.symm.trans B.named)
  cases Option.some.inj (h1.symm.trans B.method)
  cases Option.some.inj (h2.symm.trans (Stand.of_body B).code)
  rw [← h6, table_eq]
end Bodies
end VXA
/-! ===== END ===== -/
/-! ===== BEGIN a static call of a method with an exception table ===== -/
section VXS
variable {p : Program} {l : Launch} {e : Env} {R : Room} {s : State} {m : MethodId} {args : Array Value} {below : List Frame} {meth : Method} {c : Code} {T : State} {H : Heap} {locs : List Loc} {cells slots : Nat}
abbrev vx_CSW (R : Room) (s : State) (args : Array Value) (own : String) (index : Nat) (y : MethodName) (bytes : ByteArray) (maxL : Nat) (ret : Option FieldType) (hh : List (Nat × Nat × Nat × Nat)) (ws : List Cond) (rm : Room) (mc ms n : Nat) : Prop :=
  (rm.cells = mc ∧ rm.slots = ms ∧ rm.frames + 1 ≤ R.frames ∧ 8 + (maxL + 11) + rm.locals ≤ R.locals ∧ (∀ w ∈ ws, ∀ (a' : Array Value) (U : State), s.WarmedH U.vm → w.before a' U = true) ∧ Cond.codeWith y bytes maxL ret hh ∈ ws) ∧
  (Cond.codeWith y bytes maxL ret hh).before args s = true ∧ (Cond.initialized y.cls).before args s = true ∧ (y.cls ≠ "java/lang/invoke/MethodHandle" ∧ y.cls ≠ "java/lang/invoke/VarHandle") ∧
  (∀ sig, parseMethodDescriptor y.desc = some sig → n = sig.parameters.length) ∧ (Cond.methodLink own index y).before args s = true ∧ (Cond.static y).before args s = true
theorem vx_cwSW {own : String} {index maxL mc ms : Nat} {y : MethodName} {bytes : ByteArray} {ret : Option FieldType} {hh : List (Nat × Nat × Nat × Nat)} {Ts ws ws' : List Cond} {rm : Room} (n : Nat) (ht : ∀ w ∈ Ts, w.before args s = true) (hT : GoodIn Ts (va_wsS own index y ws)) (hw : ws = Cond.codeWith y bytes maxL ret hh :: ws') (hrc : rm.cells = mc) (hrs : rm.slots = ms)
    (hd : y.cls ≠ "java/lang/invoke/MethodHandle" ∧ y.cls ≠ "java/lang/invoke/VarHandle" ∧ (parseMethodDescriptor y.desc).map (fun d => d.parameters.length) = some n) (hR : rm.frames + 1 ≤ R.frames ∧ 8 + (maxL + 11) + rm.locals ≤ R.locals) :
    vx_CSW R s args own index y bytes maxL ret hh ws rm mc ms n := by
  have ok : ∀ w ∈ va_wsS own index y ws, w.before args s = true := fun w h => ht w (hT w h).1
  have hG : GoodIn Ts ws := fun w h => hT w (by unfold va_wsS; exact List.mem_append_right _ h)
  have hc : Cond.codeWith y bytes maxL ret hh ∈ ws := by rw [hw]; exact List.mem_cons_self
  refine ⟨⟨hrc, hrs, hR.1, hR.2, pay_in ht hG, hc⟩, ht _ (hG _ hc).1, ok _ (by simp [va_wsS]), ⟨hd.1, hd.2.1⟩, fun sig h => ?_, ok _ (by simp [va_wsS]), ok _ (by simp [va_wsS])⟩
  have h2 := hd.2.2
  rw [h] at h2
  exact (Option.some.inj h2).symm
theorem vx_callSW (X : Stand p l e R s m args below meth c T locs cells slots) (hexec : p.tables.exec = Jvm.exec) {own : String} {index : Nat} {y : MethodName} {bytes : ByteArray} {maxL : Nat} {ret : Option FieldType} {hh : List (Nat × Nat × Nat × Nat)}
    (hown : s.vm.findClass own = some m.cls) (hlink : (Cond.methodLink own index y).before args s = true) (hstat : (Cond.static y).before args s = true) (hinit : (Cond.initialized y.cls).before args s = true)
    (hcode : (Cond.codeWith y bytes maxL ret hh).before args s = true) (hy : y.cls ≠ "java/lang/invoke/MethodHandle" ∧ y.cls ≠ "java/lang/invoke/VarHandle")
    {W9 : Nat} {Pre : Pt → Array Value → Prop} {Post : Pt → Array Value → Option Value → Pt → Prop} (hK : Back l R p e below s args y 3 W9 Pre Post)
    {g : JFrame} (hg : g.method = m) (hsize : g.locals.size = c.maxLocals) {argsL rest : List Value} (hlen : ∀ sig, parseMethodDescriptor y.desc = some sig → argsL.length = sig.parameters.length)
    (hstack : g.stack = argsL.reverse ++ rest) (hW : 2 * g.monitorRoom + (rest.map fun v => v.category).sum ≤ W9) (hdg : decode c.code g.pc = .ok (.invokestatic index, 3))
    (hpre : ∀ vm₁, s.WarmedH vm₁ → Pre ⟨T.setVm vm₁, locs, cells, slots⟩ argsL.toArray) :
    ∃ (v : Option Value) (vm₁ : Vm) (B : Pt), s.WarmedH vm₁ ∧ Stand p l e R s m args below meth c B.U B.locs B.cells B.slots ∧ Post ⟨T.setVm vm₁, locs, cells, slots⟩ argsL.toArray v B ∧
      ∀ target, Steps p.tables e below (B.U.setTop { g with pc := g.pc + 3, stack := v.toList ++ rest }) target → Steps p.tables e below (T.setTop g) target := by
  obtain ⟨mk, methM, cM, hnamed, hmethM, -, -, -, -, -, -, hsigM⟩ := Cond.codeWith_spec hcode
  have hstatic : methM.isStatic = true := Cond.static_spec hnamed hmethM hstat
  obtain ⟨kP, hkP, -⟩ := className_of_methodNamed hnamed
  have hinitP : kP.init = .initialized := Cond.initialized_spec (findClass_of_methodNamed hnamed) hkP hinit
  obtain ⟨vm₁, X₁, hstep₁⟩ := X.invokestatic hexec hown hlink hnamed hmethM hstatic hkP hinitP hy (g := g) hg (argsL := argsL) (rest := rest) (hlen _ hsigM) hstack hdg
  obtain ⟨v, B, X', hpost, hsteps⟩ := hK m meth c ⟨T.setVm vm₁, locs, cells, slots⟩ { g with stack := rest } (.invokestatic index) mk argsL.toArray X₁ hg hsize hdg hW (X₁.named hnamed) (hpre vm₁ X₁.warmed)
  exact ⟨v, vm₁, B, X₁.warmed, X', hpost, fun target h => hstep₁ _ fun acts => by rw [doInvoke_state]; exact hsteps.trans h⟩
theorem vx_runSW {y : MethodName} {bytes cc : ByteArray} {maxL nL mc ms n index : Nat} {ret : Option FieldType} {hh : List (Nat × Nat × Nat × Nat)} {ws : List Cond} {rm : Room} {Pc : Array Value → State → Prop} {Qc : Array Value → State → Outcome → State → Prop} {free : Addr → Prop} {Ts : List Cond} {own : String} {As rest : List Value} {g : JFrame}
    (S : CallFix p m c cc nL s args Ts own) (hM : Met l y ws rm Pc Qc mc ms free) (cw : vx_CSW R s args own index y bytes maxL ret hh ws rm mc ms n) (hp : PreS s H Pc As)
    (hg : g.method = m) (hn : As.length = n) (hsize : g.locals.size = nL) (hstack : g.stack = As.reverse ++ rest) (hW : 2 * g.monitorRoom + (rest.map fun v => v.category).sum ≤ 8) (hdg : decode cc g.pc = .ok (.invokestatic index, 3)) (hf : cells + mc ≤ R.cells ∧ slots + ms ≤ R.slots) :
    va_Run p l e R s m args below meth c H locs cells slots mc ms g rest (Qc As.toArray) (free) := by
  obtain ⟨⟨hrc, hrs, hfr, hlo, hws, hcw⟩, hcode, hini, hy, hlen, hl, hstt⟩ := cw
  have hK : Back l R p e below s args y 3 8 (PreOf R mc ms Pc) (PostOf Qc mc ms free) := va_backW (hh := hh) (bytes := bytes) (maxL := maxL) (ret := ret) hM hp.1 hrc hrs hfr hlo hws hcw (fun a' U hW => word_at hW (Or.inl (by first | rfl | simp [Cond.onTables, Cond.keeps, Cond.steady])) hini)
  obtain ⟨hx, hb, hml, ho, -⟩ := S
  intro T hT X
  obtain ⟨v, vm₁, ⟨U', l2, c2, s2⟩, hW₁, X', ⟨g', mk, t, L, e1, e2, hq, h1, hL, h2, h3⟩, st⟩ := vx_callSW X hx (hh := hh) (bytes := bytes) (maxL := maxL) (ret := ret) ho hl hstt hini hcode hy hK hg (hsize.trans hml.symm) (argsL := As) (rest := rest) (fun sig h => hn.trans (hlen sig h)) hstack hW (by rw [hb]; exact hdg)
    (fun vm₁ hW₁ => ⟨hf.1, hf.2, hp.2 (T.setVm vm₁) hT hW₁⟩)
  dsimp only [Pt.U, Pt.locs, Pt.cells, Pt.slots] at X' e1 e2 h1 h2 h3 st
  subst h1; subst h2; subst h3
  exact ⟨v, (T.setVm vm₁).calling g' mk As.toArray, t, U', L, hT, X', hL, e1, e2, hq, st⟩
/-- not caught here, past rows that name other classes: it goes on to the caller -/
theorem vx_outP {p : Program} {l : Launch} {e : Env} {R : Room} {s : State} {m : MethodId} {args : Array Value} {below : List Frame} {meth : Method} {c : Code} {H : Heap} {locs : List Loc} {cells slots : Nat} {free : Addr → Prop} {ls : Array Slot} {rest : List Value} {Qc : Array Value → State → Outcome → State → Prop} {XC : String → State → State → Prop}
    {pc : Nat} {own E : String} {ce : Cell} {q : Addr} {mc ms : Nat} (hown : s.vm.findClass own = some m.cls) (hlocks : meth.locks = false)
    (hpass : ∀ z ∈ c.exceptionTable.toList, covers z pc = false ∨ (z.catchType ≠ 0 ∧ ∃ nm : String, (Cond.classLink own z.catchType nm).before args s = true ∧ va_Nc E nm s)) (hcell : H[q]? = some ce) (hv : ce.vm = .none) (hcl : s.vm.findClass E = some ce.cls)
    (hx : ∀ t : State, t.heap = H → s.vm.Alike t.vm → XC E s t) (hf : ∀ z ∈ locs, free z.base) (hc : cells ≤ mc) (hs : slots ≤ ms) :
    vx_W p l e R s m args below meth c H locs cells slots (vx_MQ below Qc XC args s mc ms free) (F0 m pc ls rest) q := by
  intro T hT X
  have hpl : e.platform.magicAccessors = ({} : Platform).magicAccessors := by rw [X.admits.platform]
  obtain ⟨vm', hW', X', st⟩ := X.outThrough hlocks q (g := F0 m pc ls rest) rfl rfl rfl (cell := ce) (by rw [hT]; exact hcell) (by rw [hv]; rfl)
    (by obtain ⟨k9, h9, -⟩ := Vm.findClass_spec hcl; exact ⟨k9, h9⟩) (fun z hz => by
      rcases hpass z hz with h | ⟨hz0, nm, hl1, hn1⟩
      · exact Or.inl h
      · obtain ⟨c6, hc6, hcl6⟩ := Cond.classLink_spec hown hl1 e.platform hpl
        obtain ⟨a8, b8, h1, h2, h3⟩ := hn1
        cases Option.some.inj (h1.symm.trans hcl)
        cases Option.some.inj (h2.symm.trans hc6)
        exact Or.inr ⟨hz0, _, hcl6, h3⟩)
  obtain ⟨g₀, hfr⟩ := X'.frames_eq
  have hcell9 : ((T.setVm vm').setFrames (.throwing q :: below)).heap[q]? = some ce := by
    show T.heap[q]? = some ce
    rw [hT]; exact hcell
  have hend : Ended ((T.setVm vm').setFrames (.throwing q :: below)) below (.threw q) := State.frames_setFrames _ (State.cur_lt_of_frames hfr)
  refine ⟨(T.setVm vm').setFrames (.throwing q :: below), ?_, .threw q, X'.here.running, hend, Or.inr ⟨q, rfl, E, ce, locs, hx _ hT (X'.ends _).1.alike, hcell9, hv, hcl, (X'.ends _).1, (X'.ends _).2.mono hc hs, hf⟩⟩
  rw [X.pushThrowing_eq]
  exact st
/-- a thing of a world lies in the heap -/
theorem vx_lt {D : va_G} {cl : List vw_C} {ws : va_W} {H1 : Heap} (h : va_P D cl ws H1) {k : Nat} {q : Nat × va_E} (hk : ws[k]? = some q) : q.1 < H1.size := (h k q hk).lt
end VXS
/-! ===== END ===== -/
/-! ===== BEGIN methods with a table of their own: called by a name, returning or throwing ===== -/
section VXH
/-! vx_backW, vx_callVX, vx_callSX, vx_callVW, vx_runVW, vx_runVX, vx_runSX, vx_ofWH follow the same proofs as their sisters above (Free/Laws.lean, Shelf42/LK1.lean); vx_outP calls Shelf42/NT130.lean (outThrough). -/
section
variable {l : Launch} {R : Room} {p : Program} {e : Env} {below : List Frame} {s : State} {sargs : Array Value} {y : MethodName} {len W9 : Nat}
theorem vx_backW {ws : List Cond} {rm : Room} {Pc : Array Value → State → Prop} {Qc : Array Value → State → Outcome → State → Prop} {XC : String → State → State → Prop} {mc ms : Nat} {free : Addr → Prop} {bytes : ByteArray} {maxL : Nat} {ret : Option FieldType} {hh : List (Nat × Nat × Nat × Nat)}
    (hM : vx_Met l y ws rm Pc Qc XC mc ms free) (hblind : FrameBlind Pc) (hrc : rm.cells = mc) (hrs : rm.slots = ms)
    (hframes : rm.frames + 1 ≤ R.frames) (hlocals : W9 + (maxL + 11) + rm.locals ≤ R.locals)
    (hws : ∀ w ∈ ws, ∀ a' U, s.WarmedH U.vm → w.before a' U = true) (hcode : Cond.codeWith y bytes maxL ret hh ∈ ws) (hinit : ∀ a' U, s.WarmedH U.vm → (Cond.initialized y.cls).before a' U = true) :
    vx_Back l R p e below s sargs y len W9 (PreOf R mc ms Pc) (PostOf Qc mc ms free) (vx_Post XC mc ms free) := by
  intro m meth c A g ig mk a X hg hsize hdg hW hn hp
  have h1 : (headSpec ws rm).pre.before a A.U = true := atoms_intro fun w hw => hws w hw _ _ X.warmed
  have h2 : (Cond.codeWith y bytes maxL ret hh).before a A.U = true := hws _ hcode _ _ X.warmed
  have h3 : (Cond.initialized y.cls).before a A.U = true := hinit _ _ X.warmed
  have h4 : A.cells + (headSpec ws rm).room.cells ≤ R.cells := by rw [show (headSpec ws rm).room.cells = mc from hrc]; exact hp.1
  have h5 : A.slots + (headSpec ws rm).room.slots ≤ R.slots := by rw [show (headSpec ws rm).room.slots = ms from hrs]; exact hp.2.1
  have hPc : Pc a (A.U.calling g mk a) := hblind _ _ _ _ hp.2.2
  obtain ⟨U, Ls, c0, s0⟩ := A
  dsimp only [Pt.U, Pt.locs, Pt.cells, Pt.slots] at h1 h2 h3 h4 h5 X hn hPc ⊢
  obtain ⟨m9, methY, cY, hn9, hmY, hcY, -, hlY, -⟩ := Cond.codeWith_spec h2
  cases Option.some.inj (hn9.symm.trans hn)
  obtain ⟨kY, hkY, -⟩ := className_of_methodNamed hn
  have hinitY : kY.init = .initialized := Cond.initialized_spec (findClass_of_methodNamed hn) hkY h3
  have h : At U g.method c below := by rw [hg]; exact X.here
  have hlocals9 : W9 + (maxL + 11) + (headSpec ws rm).room.locals ≤ R.locals := hlocals
  have happ : (headSpec ws rm).appliesLoose y e.platform (U.calling g mk a) = true :=
    Spec.appliesLoose_calling (g := g) h hdg hn hkY hinitY
      (X.room_calling (g := g) (R' := (headSpec ws rm).room) hsize hmY hcY hframes (by rw [hlY]; omega) h4 h5) h1
  obtain ⟨mid, hmid⟩ := h.above
  have hfr : (U.setTop g).frames = (.java g :: mid) ++ below := by rw [State.frames_setTop' g h.top, hmid]; rfl
  obtain ⟨o, s₂, hsteps, -, hend, hq⟩ := Steps.callFree hM p X.admits X.cas X.clock (acts := []) hfr happ hPc trivial
  have hq' : vx_Q Qc XC mc ms free a (U.calling g mk a) o s₂ := hq
  rw [State.frames_setTop' g h.top] at hend
  obtain ⟨g₀, hg0⟩ := Option.isSome_iff_exists.mp h.top
  obtain ⟨r, hr⟩ := State.topJava?_eq_some.mp hg0
  have hr' : (({ U with heap := s₂.heap, slotsUsed := s₂.slotsUsed } : State).setVm s₂.vm).frames = .java g₀ :: r := hr
  rcases hq' with ⟨hqc, L, hfe, hL⟩ | ⟨q, rfl, E, ce, L, hx, hce, hcv, hcl, hW₂, hsm, hL⟩
  · obtain ⟨⟨v, rfl⟩, hW₂, e2, q2, q3, q4, q5, q6⟩ := id hfe
    have e3 : s₂ = ({ (U.calling g mk a).setFrames s₂.frames with heap := s₂.heap, slotsUsed := s₂.slotsUsed } : State).setVm s₂.vm := by
      have : s₂ = ({ s₂ with vm := (U.calling g mk a).vm } : State).setVm s₂.vm := rfl
      rw [e2] at this
      exact this
    obtain ⟨c₂, i₂, len₂, hc₂, hd₂, hf₂⟩ := hend
    have hW' : U.WarmedH s₂.vm := hW₂
    have hcc : c₂ = c := by
      have h1 : s₂.code? g.method = U.code? g.method := by
        rw [State.code?_eq, State.code?_eq, hW'.alike.method?]
      exact Option.some.inj (hc₂.symm.trans (h1.trans h.code))
    subst hcc
    have hlen : len₂ = len := by rw [hdg] at hd₂; cases hd₂; rfl
    subst hlen
    have hs₂ : s₂ = (({ U with heap := s₂.heap, slotsUsed := s₂.slotsUsed } : State).setVm s₂.vm).setTop { g with pc := g.pc + len₂, stack := v.toList ++ g.stack } := by
      refine e3.trans ?_
      rw [hf₂, State.calling_eq h.top, State.setFrames_setFrames, State.setTop_of_frames _ hr', hr]
      rfl
    have hsame : U.sameButNew ({ U with heap := s₂.heap, slotsUsed := s₂.slotsUsed } : State) L mc ms := by
      refine ⟨?_, q2, q3, q4, q5, q6⟩
      obtain ⟨t, ht, -⟩ := State.frames_cons hr
      show ({ U with heap := s₂.heap, slotsUsed := s₂.slotsUsed } : State) = { U.setFrames U.frames with heap := s₂.heap, slotsUsed := s₂.slotsUsed }
      rw [State.setFrames_self ht]
    subst hg
    refine Or.inl ⟨v, ⟨(({ U with heap := s₂.heap, slotsUsed := s₂.slotsUsed } : State).setVm s₂.vm), Ls ++ L, c0 + mc, s0 + ms⟩,
      ⟨X.admits, X.cas, X.clock, X.frames, X.room, X.hears, X.method, X.code, (X.here.setHeapUsed s₂.heap s₂.slotsUsed).setVm hW'.alike, X.tail, State.WarmedH.trans X.warmed hW', X.limits, X.bytes, X.same.trans (hsame.setVm s.vm)⟩,
      ⟨g, mk, s₂, L, rfl, rfl, hqc, rfl, hL, rfl, rfl⟩, ?_⟩
    show Steps p.tables e below _ ((({ U with heap := s₂.heap, slotsUsed := s₂.slotsUsed } : State).setVm s₂.vm).setTop { g with pc := g.pc + len₂, stack := v.toList ++ g.stack })
    rw [← hs₂]
    exact hsteps
  · obtain ⟨e2, q2, q3, q4, q5, q6⟩ := id hsm
    have e3 : s₂ = ({ (U.calling g mk a).setFrames s₂.frames with heap := s₂.heap, slotsUsed := s₂.slotsUsed } : State).setVm s₂.vm := by
      have : s₂ = ({ s₂ with vm := (U.calling g mk a).vm } : State).setVm s₂.vm := rfl
      rw [e2] at this
      exact this
    have hf₂ : s₂.frames = .throwing q :: .java g :: U.frames.tail := hend
    have hW' : U.WarmedH s₂.vm := hW₂
    have hs₂ : s₂ = ((({ U with heap := s₂.heap, slotsUsed := s₂.slotsUsed } : State).setVm s₂.vm).setTop g).pushFrame (.throwing q) := by
      refine e3.trans ?_
      rw [hf₂, State.calling_eq h.top, State.setFrames_setFrames, State.pushFrame, State.frames_setTop _ hr', State.setTop_of_frames _ hr', State.setFrames_setFrames, hr]
      rfl
    have hsame : U.sameButNew ({ U with heap := s₂.heap, slotsUsed := s₂.slotsUsed } : State) L mc ms := by
      refine ⟨?_, q2, q3, q4, q5, q6⟩
      obtain ⟨t, ht, -⟩ := State.frames_cons hr
      show ({ U with heap := s₂.heap, slotsUsed := s₂.slotsUsed } : State) = { U.setFrames U.frames with heap := s₂.heap, slotsUsed := s₂.slotsUsed }
      rw [State.setFrames_self ht]
    subst hg
    refine Or.inr ⟨q, ⟨(({ U with heap := s₂.heap, slotsUsed := s₂.slotsUsed } : State).setVm s₂.vm), Ls ++ L, c0 + mc, s0 + ms⟩,
      ⟨X.admits, X.cas, X.clock, X.frames, X.room, X.hears, X.method, X.code, (X.here.setHeapUsed s₂.heap s₂.slotsUsed).setVm hW'.alike, X.tail, State.WarmedH.trans X.warmed hW', X.limits, X.bytes, X.same.trans (hsame.setVm s.vm)⟩,
      ⟨g, mk, s₂, L, E, ce, rfl, rfl, hx, hce, hcv, hcl, rfl, hL, rfl, rfl⟩, ?_⟩
    show Steps p.tables e below _ (((({ U with heap := s₂.heap, slotsUsed := s₂.slotsUsed } : State).setVm s₂.vm).setTop g).pushFrame (.throwing q))
    rw [← hs₂]
    exact hsteps
end
variable {p : Program} {l : Launch} {e : Env} {R : Room} {s : State} {m : MethodId} {args : Array Value} {below : List Frame} {meth : Method} {c : Code} {T : State} {H : Heap} {locs : List Loc} {cells slots : Nat}
theorem vx_callVX (X : Stand p l e R s m args below meth c T locs cells slots) (hexec : p.tables.exec = Jvm.exec) {own C : String} {index : Nat} {y : MethodName} {bytes : ByteArray} {maxL : Nat} {ret : Option FieldType} {hh : List (Nat × Nat × Nat × Nat)}
    (hown : s.vm.findClass own = some m.cls) (hlink : (Cond.methodLink own index y).before args s = true) (hinst : (Cond.instanceMethod y).before args s = true) (hsel : (Cond.selects C y y).before args s = true)
    (hcode : (Cond.codeWith y bytes maxL ret hh).before args s = true) (hy : y.cls ≠ "java/lang/invoke/MethodHandle" ∧ y.cls ≠ "java/lang/invoke/VarHandle")
    {W9 : Nat} {Pre : Pt → Array Value → Prop} {Post : Pt → Array Value → Option Value → Pt → Prop} {PostX : Pt → Array Value → Addr → Pt → Prop} (hK : vx_Back l R p e below s args y 3 W9 Pre Post PostX)
    {b : Addr} {cellB : Cell} (hcell : T.heap[b]? = some cellB) (hobj : cellB.vm.isStatics = false) (hcls : s.vm.findClass C = some cellB.cls)
    {g : JFrame} (hg : g.method = m) (hsize : g.locals.size = c.maxLocals) {argsL rest : List Value} (hlen : ∀ sig, parseMethodDescriptor y.desc = some sig → argsL.length = sig.parameters.length)
    (hstack : g.stack = argsL.reverse ++ .ref b :: rest) (hW : 2 * g.monitorRoom + (rest.map fun v => v.category).sum ≤ W9) (hdg : decode c.code g.pc = .ok (.invokevirtual index, 3))
    (hpre : ∀ vm₁, s.WarmedH vm₁ → Pre ⟨T.setVm vm₁, locs, cells, slots⟩ (Value.ref b :: argsL).toArray) :
    (∃ (v : Option Value) (vm₁ : Vm) (B : Pt), s.WarmedH vm₁ ∧ Stand p l e R s m args below meth c B.U B.locs B.cells B.slots ∧ Post ⟨T.setVm vm₁, locs, cells, slots⟩ (Value.ref b :: argsL).toArray v B ∧
      ∀ target, Steps p.tables e below (B.U.setTop { g with pc := g.pc + 3, stack := v.toList ++ rest }) target → Steps p.tables e below (T.setTop g) target) ∨
    (∃ (q : Addr) (vm₁ : Vm) (B : Pt), s.WarmedH vm₁ ∧ Stand p l e R s m args below meth c B.U B.locs B.cells B.slots ∧ PostX ⟨T.setVm vm₁, locs, cells, slots⟩ (Value.ref b :: argsL).toArray q B ∧
      Steps p.tables e below (T.setTop g) ((B.U.setTop { g with stack := rest }).pushFrame (.throwing q))) := by
  obtain ⟨mk, methM, hnamed, hmethM, hstM, habM⟩ := Cond.instanceMethod_spec hinst
  obtain ⟨m8, methM', cM, hn8, hmethM', -, -, -, -, -, -, hsigM⟩ := Cond.codeWith_spec hcode
  cases Option.some.inj (hn8.symm.trans hnamed)
  cases hmethM.symm.trans hmethM'
  obtain ⟨c2, r2, m2, q1, q2, q3, q4, kP, hkP, hkPi⟩ := Cond.selects_spec hsel
  cases hcls.symm.trans q1
  cases (State.methodFound?_of_named hnamed hy).symm.trans q2
  cases hnamed.symm.trans q3
  have hselP : selectMethod e.platform s.vm cellB.cls mk = .method mk := by rw [Launch.admits_selectMethod X.admits]; exact q4
  obtain ⟨vm₁, X₁, hstep₁⟩ := X.invokevirtual hexec hown hlink hnamed hmethM hstM hkP hkPi hy (a := b) (cell := cellB) hcell
    (fun z h => by rw [h] at hobj; cases hobj) hselP hmethM habM hkP hkPi (g := g) hg (argsL := argsL) (rest := rest) (hlen _ hsigM) hstack hdg
  rcases hK m meth c ⟨T.setVm vm₁, locs, cells, slots⟩ { g with stack := rest } (.invokevirtual index) mk (Value.ref b :: argsL).toArray X₁ hg hsize hdg hW (X₁.named hnamed) (hpre vm₁ X₁.warmed) with ⟨v, B, X', hpost, hsteps⟩ | ⟨q, B, X', hpost, hsteps⟩
  · exact Or.inl ⟨v, vm₁, B, X₁.warmed, X', hpost, fun target h => hstep₁ _ fun acts => by rw [doInvoke_state]; exact hsteps.trans h⟩
  · exact Or.inr ⟨q, vm₁, B, X₁.warmed, X', hpost, hstep₁ _ fun acts => by rw [doInvoke_state]; exact hsteps⟩
theorem vx_callSX (X : Stand p l e R s m args below meth c T locs cells slots) (hexec : p.tables.exec = Jvm.exec) {own : String} {index : Nat} {y : MethodName} {bytes : ByteArray} {maxL : Nat} {ret : Option FieldType} {hh : List (Nat × Nat × Nat × Nat)}
    (hown : s.vm.findClass own = some m.cls) (hlink : (Cond.methodLink own index y).before args s = true) (hstat : (Cond.static y).before args s = true) (hinit : (Cond.initialized y.cls).before args s = true)
    (hcode : (Cond.codeWith y bytes maxL ret hh).before args s = true) (hy : y.cls ≠ "java/lang/invoke/MethodHandle" ∧ y.cls ≠ "java/lang/invoke/VarHandle")
    {W9 : Nat} {Pre : Pt → Array Value → Prop} {Post : Pt → Array Value → Option Value → Pt → Prop} {PostX : Pt → Array Value → Addr → Pt → Prop} (hK : vx_Back l R p e below s args y 3 W9 Pre Post PostX)
    {g : JFrame} (hg : g.method = m) (hsize : g.locals.size = c.maxLocals) {argsL rest : List Value} (hlen : ∀ sig, parseMethodDescriptor y.desc = some sig → argsL.length = sig.parameters.length)
    (hstack : g.stack = argsL.reverse ++ rest) (hW : 2 * g.monitorRoom + (rest.map fun v => v.category).sum ≤ W9) (hdg : decode c.code g.pc = .ok (.invokestatic index, 3))
    (hpre : ∀ vm₁, s.WarmedH vm₁ → Pre ⟨T.setVm vm₁, locs, cells, slots⟩ argsL.toArray) :
    (∃ (v : Option Value) (vm₁ : Vm) (B : Pt), s.WarmedH vm₁ ∧ Stand p l e R s m args below meth c B.U B.locs B.cells B.slots ∧ Post ⟨T.setVm vm₁, locs, cells, slots⟩ argsL.toArray v B ∧
      ∀ target, Steps p.tables e below (B.U.setTop { g with pc := g.pc + 3, stack := v.toList ++ rest }) target → Steps p.tables e below (T.setTop g) target) ∨
    (∃ (q : Addr) (vm₁ : Vm) (B : Pt), s.WarmedH vm₁ ∧ Stand p l e R s m args below meth c B.U B.locs B.cells B.slots ∧ PostX ⟨T.setVm vm₁, locs, cells, slots⟩ argsL.toArray q B ∧
      Steps p.tables e below (T.setTop g) ((B.U.setTop { g with stack := rest }).pushFrame (.throwing q))) := by
  obtain ⟨mk, methM, cM, hnamed, hmethM, -, -, -, -, -, -, hsigM⟩ := Cond.codeWith_spec hcode
  have hstatic : methM.isStatic = true := Cond.static_spec hnamed hmethM hstat
  obtain ⟨kP, hkP, -⟩ := className_of_methodNamed hnamed
  have hinitP : kP.init = .initialized := Cond.initialized_spec (findClass_of_methodNamed hnamed) hkP hinit
  obtain ⟨vm₁, X₁, hstep₁⟩ := X.invokestatic hexec hown hlink hnamed hmethM hstatic hkP hinitP hy (g := g) hg (argsL := argsL) (rest := rest) (hlen _ hsigM) hstack hdg
  rcases hK m meth c ⟨T.setVm vm₁, locs, cells, slots⟩ { g with stack := rest } (.invokestatic index) mk argsL.toArray X₁ hg hsize hdg hW (X₁.named hnamed) (hpre vm₁ X₁.warmed) with ⟨v, B, X', hpost, hsteps⟩ | ⟨q, B, X', hpost, hsteps⟩
  · exact Or.inl ⟨v, vm₁, B, X₁.warmed, X', hpost, fun target h => hstep₁ _ fun acts => by rw [doInvoke_state]; exact hsteps.trans h⟩
  · exact Or.inr ⟨q, vm₁, B, X₁.warmed, X', hpost, hstep₁ _ fun acts => by rw [doInvoke_state]; exact hsteps⟩
theorem vx_callVW (X : Stand p l e R s m args below meth c T locs cells slots) (hexec : p.tables.exec = Jvm.exec) {own C : String} {index : Nat} {y : MethodName} {bytes : ByteArray} {maxL : Nat} {ret : Option FieldType} {hh : List (Nat × Nat × Nat × Nat)}
    (hown : s.vm.findClass own = some m.cls) (hlink : (Cond.methodLink own index y).before args s = true) (hinst : (Cond.instanceMethod y).before args s = true) (hsel : (Cond.selects C y y).before args s = true)
    (hcode : (Cond.codeWith y bytes maxL ret hh).before args s = true) (hy : y.cls ≠ "java/lang/invoke/MethodHandle" ∧ y.cls ≠ "java/lang/invoke/VarHandle")
    {W9 : Nat} {Pre : Pt → Array Value → Prop} {Post : Pt → Array Value → Option Value → Pt → Prop} (hK : Back l R p e below s args y 3 W9 Pre Post)
    {b : Addr} {cellB : Cell} (hcell : T.heap[b]? = some cellB) (hobj : cellB.vm.isStatics = false) (hcls : s.vm.findClass C = some cellB.cls)
    {g : JFrame} (hg : g.method = m) (hsize : g.locals.size = c.maxLocals) {argsL rest : List Value} (hlen : ∀ sig, parseMethodDescriptor y.desc = some sig → argsL.length = sig.parameters.length)
    (hstack : g.stack = argsL.reverse ++ .ref b :: rest) (hW : 2 * g.monitorRoom + (rest.map fun v => v.category).sum ≤ W9) (hdg : decode c.code g.pc = .ok (.invokevirtual index, 3))
    (hpre : ∀ vm₁, s.WarmedH vm₁ → Pre ⟨T.setVm vm₁, locs, cells, slots⟩ (Value.ref b :: argsL).toArray) :
    ∃ (v : Option Value) (vm₁ : Vm) (B : Pt), s.WarmedH vm₁ ∧ Stand p l e R s m args below meth c B.U B.locs B.cells B.slots ∧ Post ⟨T.setVm vm₁, locs, cells, slots⟩ (Value.ref b :: argsL).toArray v B ∧
      ∀ target, Steps p.tables e below (B.U.setTop { g with pc := g.pc + 3, stack := v.toList ++ rest }) target → Steps p.tables e below (T.setTop g) target := by
  obtain ⟨mk, methM, hnamed, hmethM, hstM, habM⟩ := Cond.instanceMethod_spec hinst
  obtain ⟨m8, methM', cM, hn8, hmethM', -, -, -, -, -, -, hsigM⟩ := Cond.codeWith_spec hcode
  cases Option.some.inj (hn8.symm.trans hnamed)
  cases hmethM.symm.trans hmethM'
  obtain ⟨c2, r2, m2, q1, q2, q3, q4, kP, hkP, hkPi⟩ := Cond.selects_spec hsel
  cases hcls.symm.trans q1
  cases (State.methodFound?_of_named hnamed hy).symm.trans q2
  cases hnamed.symm.trans q3
  have hselP : selectMethod e.platform s.vm cellB.cls mk = .method mk := by rw [Launch.admits_selectMethod X.admits]; exact q4
  obtain ⟨vm₁, X₁, hstep₁⟩ := X.invokevirtual hexec hown hlink hnamed hmethM hstM hkP hkPi hy (a := b) (cell := cellB) hcell
    (fun z h => by rw [h] at hobj; cases hobj) hselP hmethM habM hkP hkPi (g := g) hg (argsL := argsL) (rest := rest) (hlen _ hsigM) hstack hdg
  obtain ⟨v, B, X', hpost, hsteps⟩ := hK m meth c ⟨T.setVm vm₁, locs, cells, slots⟩ { g with stack := rest } (.invokevirtual index) mk (Value.ref b :: argsL).toArray X₁ hg hsize hdg hW (X₁.named hnamed) (hpre vm₁ X₁.warmed)
  exact ⟨v, vm₁, B, X₁.warmed, X', hpost, fun target h => hstep₁ _ fun acts => by rw [doInvoke_state]; exact hsteps.trans h⟩
abbrev vx_CVW (R : Room) (s : State) (args : Array Value) (own C : String) (index : Nat) (y : MethodName) (bytes : ByteArray) (maxL : Nat) (ret : Option FieldType) (hh : List (Nat × Nat × Nat × Nat)) (ws : List Cond) (rm : Room) (mc ms n : Nat) : Prop :=
  (rm.cells = mc ∧ rm.slots = ms ∧ rm.frames + 1 ≤ R.frames ∧ 8 + (maxL + 11) + rm.locals ≤ R.locals ∧ (∀ w ∈ ws, ∀ (a' : Array Value) (U : State), s.WarmedH U.vm → w.before a' U = true) ∧ Cond.codeWith y bytes maxL ret hh ∈ ws) ∧
  (Cond.codeWith y bytes maxL ret hh).before args s = true ∧ (Cond.initialized y.cls).before args s = true ∧ (y.cls ≠ "java/lang/invoke/MethodHandle" ∧ y.cls ≠ "java/lang/invoke/VarHandle") ∧
  (∀ sig, parseMethodDescriptor y.desc = some sig → n = sig.parameters.length) ∧ (Cond.methodLink own index y).before args s = true ∧ (Cond.instanceMethod y).before args s = true ∧ (Cond.selects C y y).before args s = true
theorem vx_cwVW {own C : String} {index maxL mc ms : Nat} {y : MethodName} {bytes : ByteArray} {ret : Option FieldType} {hh : List (Nat × Nat × Nat × Nat)} {Ts ws ws' : List Cond} {rm : Room} (n : Nat) (ht : ∀ w ∈ Ts, w.before args s = true) (hT : GoodIn Ts (wsV own index C y ws)) (hw : ws = Cond.codeWith y bytes maxL ret hh :: ws') (hrc : rm.cells = mc) (hrs : rm.slots = ms)
    (hd : y.cls = C ∧ y.cls ≠ "java/lang/invoke/MethodHandle" ∧ y.cls ≠ "java/lang/invoke/VarHandle" ∧ (parseMethodDescriptor y.desc).map (fun d => d.parameters.length) = some n) (hR : rm.frames + 1 ≤ R.frames ∧ 8 + (maxL + 11) + rm.locals ≤ R.locals) :
    vx_CVW R s args own C index y bytes maxL ret hh ws rm mc ms n := by
  obtain ⟨hC, hd⟩ := hd
  subst hC
  have ok : ∀ w ∈ wsV own index y.cls y ws, w.before args s = true := fun w h => ht w (hT w h).1
  have hG : GoodIn Ts ws := fun w h => hT w (by unfold wsV; exact List.mem_append_right _ h)
  have hc : Cond.codeWith y bytes maxL ret hh ∈ ws := by rw [hw]; exact List.mem_cons_self
  refine ⟨⟨hrc, hrs, hR.1, hR.2, pay_in ht hG, hc⟩, ht _ (hG _ hc).1, ok _ (by simp [wsV]), ⟨hd.1, hd.2.1⟩, fun sig h => ?_, ok _ (by simp [wsV]), ok _ (by simp [wsV]), ok _ (by simp [wsV])⟩
  have h2 := hd.2.2
  rw [h] at h2
  exact (Option.some.inj h2).symm
theorem vx_runVW {y : MethodName} {bytes cc : ByteArray} {maxL nL mc ms n index : Nat} {ret : Option FieldType} {hh : List (Nat × Nat × Nat × Nat)} {ws : List Cond} {rm : Room} {Pc : Array Value → State → Prop} {Qc : Array Value → State → Outcome → State → Prop} {free : Addr → Prop} {Ts : List Cond} {own C : String} {b : Addr} {As rest : List Value} {g : JFrame}
    (S : CallFix p m c cc nL s args Ts own) (hM : Met l y ws rm Pc Qc mc ms free) (cw : vx_CVW R s args own C index y bytes maxL ret hh ws rm mc ms n) (hp : PreV s H C b Pc As)
    (hg : g.method = m) (hn : As.length = n) (hsize : g.locals.size = nL) (hstack : g.stack = As.reverse ++ .ref b :: rest) (hW : 2 * g.monitorRoom + (rest.map fun v => v.category).sum ≤ 8) (hdg : decode cc g.pc = .ok (.invokevirtual index, 3)) (hf : cells + mc ≤ R.cells ∧ slots + ms ≤ R.slots) :
    va_Run p l e R s m args below meth c H locs cells slots mc ms g rest (Qc (Value.ref b :: As).toArray) free := by
  obtain ⟨⟨hrc, hrs, hfr, hlo, hws, hcw⟩, hcode, hini, hy, hlen, hl, hin, hse⟩ := cw
  have hK : Back l R p e below s args y 3 8 (PreOf R mc ms Pc) (PostOf Qc mc ms free) := va_backW (hh := hh) (bytes := bytes) (maxL := maxL) (ret := ret) hM hp.1 hrc hrs hfr hlo hws hcw (fun a' U hW => word_at hW (Or.inl (by first | rfl | simp [Cond.onTables, Cond.keeps, Cond.steady])) hini)
  obtain ⟨hx, hb, hml, ho, -⟩ := S
  obtain ⟨-, ⟨cellB, hcB, hoB, hclB⟩, hPc⟩ := hp
  intro T hT X
  obtain ⟨v, vm₁, ⟨U', l2, c2, s2⟩, hW₁, X', ⟨g', mk, t, L, e1, e2, hq, h1, hL, h2, h3⟩, st⟩ := vx_callVW X hx (C := C) (hh := hh) (bytes := bytes) (maxL := maxL) (ret := ret) ho hl hin hse hcode hy hK (by rw [hT]; exact hcB) hoB hclB hg (hsize.trans hml.symm) (argsL := As) (rest := rest) (fun sig h => hn.trans (hlen sig h)) hstack hW (by rw [hb]; exact hdg)
    (fun vm₁ hW₁ => ⟨hf.1, hf.2, hPc (T.setVm vm₁) hT hW₁⟩)
  dsimp only [Pt.U, Pt.locs, Pt.cells, Pt.slots] at X' e1 e2 h1 h2 h3 st
  subst h1; subst h2; subst h3
  exact ⟨v, (T.setVm vm₁).calling g' mk (Value.ref b :: As).toArray, t, U', L, hT, X', hL, e1, e2, hq, st⟩
section
variable {y : MethodName} {bytes cc : ByteArray} {maxL nL mc ms n index : Nat} {ret : Option FieldType} {ws : List Cond} {rm : Room} {Pc : Array Value → State → Prop} {Qc : Array Value → State → Outcome → State → Prop} {XC : String → State → State → Prop} {free : Addr → Prop} {Ts : List Cond} {own C : String} {b : Addr} {As rest : List Value} {g : JFrame}
theorem vx_runVX {hh : List (Nat × Nat × Nat × Nat)} (S : CallFix p m c cc nL s args Ts own) (hM : vx_Met l y ws rm Pc Qc XC mc ms free) (cw : vx_CVW R s args own C index y bytes maxL ret hh ws rm mc ms n) (hp : PreV s H C b Pc As)
    (hg : g.method = m) (hn : As.length = n) (hsize : g.locals.size = nL) (hstack : g.stack = As.reverse ++ .ref b :: rest) (hW : 2 * g.monitorRoom + (rest.map fun v => v.category).sum ≤ 8) (hdg : decode cc g.pc = .ok (.invokevirtual index, 3)) (hf : cells + mc ≤ R.cells ∧ slots + ms ≤ R.slots) :
    vx_Run p l e R s m args below meth c H locs cells slots mc ms g rest (Qc (Value.ref b :: As).toArray) XC free := by
  obtain ⟨⟨hrc, hrs, hfr, hlo, hws, hcw⟩, hcode, hini, hy, hlen, hl, hin, hse⟩ := cw
  have hK : vx_Back l R p e below s args y 3 8 (PreOf R mc ms Pc) (PostOf Qc mc ms free) (vx_Post XC mc ms free) := vx_backW (hh := hh) (bytes := bytes) (maxL := maxL) (ret := ret) hM hp.1 hrc hrs hfr hlo hws hcw (fun a' U hW => word_at hW (Or.inl (by first | rfl | simp [Cond.onTables, Cond.keeps, Cond.steady])) hini)
  obtain ⟨hx, hb, hml, ho, -⟩ := S
  obtain ⟨-, ⟨cellB, hcB, hoB, hclB⟩, hPc⟩ := hp
  intro T hT X
  rcases vx_callVX X hx (C := C) (hh := hh) (bytes := bytes) (maxL := maxL) (ret := ret) ho hl hin hse hcode hy hK (by rw [hT]; exact hcB) hoB hclB hg (hsize.trans hml.symm) (argsL := As) (rest := rest) (fun sig h => hn.trans (hlen sig h)) hstack hW (by rw [hb]; exact hdg)
    (fun vm₁ hW₁ => ⟨hf.1, hf.2, hPc (T.setVm vm₁) hT hW₁⟩) with ⟨v, vm₁, ⟨U', l2, c2, s2⟩, hW₁, X', ⟨g', mk, t, L, e1, e2, hq, h1, hL, h2, h3⟩, st⟩ | ⟨q, vm₁, ⟨U', l2, c2, s2⟩, hW₁, X', ⟨g', mk, t, L, E, ce, e1, e2, hq, hce, hcv, hcl, h1, hL, h2, h3⟩, st⟩
  · dsimp only [Pt.U, Pt.locs, Pt.cells, Pt.slots] at X' e1 e2 h1 h2 h3 st
    subst h1; subst h2; subst h3
    exact Or.inl ⟨v, (T.setVm vm₁).calling g' mk (Value.ref b :: As).toArray, t, U', L, hT, X', hL, e1, e2, hq, st⟩
  · dsimp only [Pt.U, Pt.locs, Pt.cells, Pt.slots] at X' e1 e2 h1 h2 h3 st hcl
    subst h1; subst h2; subst h3
    exact Or.inr ⟨q, (T.setVm vm₁).calling g' mk (Value.ref b :: As).toArray, t, U', L, E, ce, hT, X', hL, e1, e2, hq, hce, hcv, vx_cls hW₁ hcl, st⟩
theorem vx_runSX {hh : List (Nat × Nat × Nat × Nat)} (S : CallFix p m c cc nL s args Ts own) (hM : vx_Met l y ws rm Pc Qc XC mc ms free) (cw : vx_CSW R s args own index y bytes maxL ret hh ws rm mc ms n) (hp : PreS s H Pc As)
    (hg : g.method = m) (hn : As.length = n) (hsize : g.locals.size = nL) (hstack : g.stack = As.reverse ++ rest) (hW : 2 * g.monitorRoom + (rest.map fun v => v.category).sum ≤ 8) (hdg : decode cc g.pc = .ok (.invokestatic index, 3)) (hf : cells + mc ≤ R.cells ∧ slots + ms ≤ R.slots) :
    vx_Run p l e R s m args below meth c H locs cells slots mc ms g rest (Qc As.toArray) XC free := by
  obtain ⟨⟨hrc, hrs, hfr, hlo, hws, hcw⟩, hcode, hini, hy, hlen, hl, hstt⟩ := cw
  have hK : vx_Back l R p e below s args y 3 8 (PreOf R mc ms Pc) (PostOf Qc mc ms free) (vx_Post XC mc ms free) := vx_backW (hh := hh) (bytes := bytes) (maxL := maxL) (ret := ret) hM hp.1 hrc hrs hfr hlo hws hcw (fun a' U hW => word_at hW (Or.inl (by first | rfl | simp [Cond.onTables, Cond.keeps, Cond.steady])) hini)
  obtain ⟨hx, hb, hml, ho, -⟩ := S
  intro T hT X
  rcases vx_callSX X hx (hh := hh) (bytes := bytes) (maxL := maxL) (ret := ret) ho hl hstt hini hcode hy hK hg (hsize.trans hml.symm) (argsL := As) (rest := rest) (fun sig h => hn.trans (hlen sig h)) hstack hW (by rw [hb]; exact hdg)
    (fun vm₁ hW₁ => ⟨hf.1, hf.2, hp.2 (T.setVm vm₁) hT hW₁⟩) with ⟨v, vm₁, ⟨U', l2, c2, s2⟩, hW₁, X', ⟨g', mk, t, L, e1, e2, hq, h1, hL, h2, h3⟩, st⟩ | ⟨q, vm₁, ⟨U', l2, c2, s2⟩, hW₁, X', ⟨g', mk, t, L, E, ce, e1, e2, hq, hce, hcv, hcl, h1, hL, h2, h3⟩, st⟩
  · dsimp only [Pt.U, Pt.locs, Pt.cells, Pt.slots] at X' e1 e2 h1 h2 h3 st
    subst h1; subst h2; subst h3
    exact Or.inl ⟨v, (T.setVm vm₁).calling g' mk As.toArray, t, U', L, hT, X', hL, e1, e2, hq, st⟩
  · dsimp only [Pt.U, Pt.locs, Pt.cells, Pt.slots] at X' e1 e2 h1 h2 h3 st hcl
    subst h1; subst h2; subst h3
    exact Or.inr ⟨q, (T.setVm vm₁).calling g' mk As.toArray, t, U', L, E, ce, hT, X', hL, e1, e2, hq, hce, hcv, vx_cls hW₁ hcl, st⟩
end
end VXH
theorem vx_ofWH {l : Launch} {y : MethodName} {ws ws' : List Cond} {rm : Room} {Pc : Array Value → State → Prop} {Qc : Array Value → State → Outcome → State → Prop} {XC : String → State → State → Prop} {mc ms : Nat} {free : Addr → Prop} {cc : ByteArray} {maxL : Nat} {ret : Option FieldType} {hh : List (Nat × Nat × Nat × Nat)}
    (hy : plainName y.cls = true) (hw : ws = Cond.codeWith y cc maxL ret hh :: ws')
    (body : ∀ p e s m args below meth c s₁, BodyLoose p l y (headSpec ws rm) cc maxL ret e s m args below meth c s₁ → c.maxLocals = maxL → Pc args s →
      W p l e (headSpec ws rm).room s m args below meth c s.heap [] 0 0 (vx_MQ below Qc XC args s mc ms free) (entryFrame m args maxL)) : vx_Met l y ws rm Pc Qc XC mc ms free := by
  refine MetFree.of_bodyS (code := cc) (maxLocals := maxL) (ret := ret) hy ?_ ?_
  · intro args s m h hn
    obtain ⟨m9, meth, c, hn9, h1, h2, h3, h4, -, h5, h6, -⟩ := Cond.codeWith_spec (atoms_spec (ws := ws) h _ (by rw [hw]; exact List.mem_cons_self))
    cases hn.symm.trans hn9
    exact ⟨meth, c, h1, h2, h3, h4, h5, h6⟩
  · intro p e s m args below meth c s₁ B hml hP _
    have hh0 : s₁.heap = s.heap := by rw [B.state]; rfl
    obtain ⟨t, a1, o, b1, b2, b3⟩ := body p e s m args below meth c s₁ B hml hP s₁ hh0 (Stand.of_body B)
    exact ⟨t, o, a1, b1, b2, b3⟩
/-! ===== END ===== -/
end
section
/-! EV: an evaluator of bytecode over a list of cells (EC: what kind, its slots), and its soundness over the machine.
An action (EA) is what one instruction does: it is given how methods are called, what comes behind it, the frame and the cells. -/
abbrev EC : Type := (Nat ⊕ Nat) × List Value
abbrev EH : Type := List EC × Nat × Nat
abbrev EF : Type := Nat × List (Nat × Value) × List Value
abbrev ER : Type := Option ((Option Value ⊕ String) × EH)
abbrev EK : Type := EF → EH → ER
abbrev ECall : Type := Nat → List Value → EH → ER
abbrev EA : Type := ECall → EK → EF → EH → ER
/-- the texts that a throw names; pairs of classes of which the first is none of the second -/
abbrev EQ : Type := List (String × Nat × String) × List (String × String)
/-- what a value of the evaluator is on the machine: cells by their places (al: their addresses), outer cells by numbers (ox) -/
def ev_rv (ox : Nat → Nat) (al : List Nat) : Value → Value
  | .ref a => .ref (al.getD a 0)
  | .float k => .ref (ox k.toNat)
  | v => v
/-- a value that speaks of n cells at most -/
def ev_ok (n : Nat) : Value → Prop
  | .ref a => a < n
  | _ => True
def ev_i : Value → Int32
  | .int x => x
  | _ => 0
def ev_l : Value → Int64
  | .long x => x
  | _ => 0
def ev_arr (t : Nat) (vs : List Value) : vp_A :=
  (vs.length, if t = 2 then .inr (.inl (fun j => ev_l (vs.getD j (.long 0)))) else .inl (fun j => ev_i (vs.getD j (.int 0))))
def ev_e (cs : Nat → ClassId) (ox : Nat → Nat) (al : List Nat) (e : EC) : va_E := match e.1 with
  | .inl t => .inl (cs t, ev_arr t e.2)
  | .inr c => .inr (c, e.2.map (ev_rv ox al))
def ev_w (cs : Nat → ClassId) (ox : Nat → Nat) (al : List Nat) (h : List EC) : va_W := (al.zip h).map (fun q => (q.1, ev_e cs ox al q.2))
/-- the kinds of arrays: 0 int[], 1 boolean[], 2 long[] -/
def ev_ty : Nat → FieldType
  | 0 => .int
  | 1 => .boolean
  | _ => .long
def ev_tys (cs : Nat → ClassId) : List (ClassId × FieldType) := [(cs 0, ev_ty 0), (cs 1, ev_ty 1), (cs 2, ev_ty 2)]
/-- no cell speaks of a place that isn't there -/
def ev_wf (h : List EC) : Prop := ∀ e ∈ h, ∀ v ∈ e.2, ev_ok h.length v
/-- the world: the cells lie at their addresses, apart, within A; nothing outside A has changed since H0 -/
def ev_Wd (D : va_G) (cl : List vw_C) (cs : Nat → ClassId) (ox : Nat → Nat) (A : Nat → Prop) (H0 : Heap) (al0 : List Nat) (al : List Nat) (h : List EC) (H : Heap) (locs : List Loc) : Prop :=
  al0 <+: al ∧ al.length = h.length ∧ va_P D cl (ev_w cs ox al h) H ∧ va_D A (ev_w cs ox al h) ∧ va_S A H0 H locs ∧ ev_wf h
/-- from this frame and these cells the machine comes to Q, within the room up to ck, cn -/
def ev_G (p : Program) (l : Launch) (e : Env) (R : Room) (s : State) (m : MethodId) (args : Array Value) (below : List Frame) (meth : Method) (c : Code) (Q : State → Prop)
    (D : va_G) (cl : List vw_C) (cs : Nat → ClassId) (ox : Nat → Nat) (A : Nat → Prop) (al0 : List Nat) (nL k0 n0 ck cn : Nat) (f : EF) (hs : EH) : Prop :=
  k0 ≤ hs.2.1 → n0 ≤ hs.2.2 → hs.2.1 ≤ ck ∧ hs.2.2 ≤ cn ∧ ∀ (al : List Nat) (H : Heap) (locs : List Loc) (ls : Array Slot), ev_Wd D cl cs ox A s.heap al0 al hs.1 H locs →
    (∀ q ∈ f.2.1, ev_ok hs.1.length q.2) → (∀ v ∈ f.2.2, ev_ok hs.1.length v) → lv_has ls nL (f.2.1.map (fun q => (q.1, ev_rv ox al q.2))) →
    W p l e R s m args below meth c H locs (hs.2.1 - k0) (hs.2.2 - n0) Q (F0 m f.1 ls (f.2.2.map (ev_rv ox al)))
def ev_ret (v : Option Value) (ig : Instr) : Prop := match v with
  | none => ig = .return_
  | some (.int _) => ig = .ireturn
  | some (.long _) => ig = .lreturn
  | some (.double _) => ig = .dreturn
  | some (.ref _) => ig = .areturn
  | _ => False
/-- words that are kept as premises of their own: nest mates' links, what a throw asks beside -/
def ev_nestw : Cond → Bool
  | .fieldLinkNest _ _ _ _ _ _ => true
  | .methodLinkNest _ _ _ _ => true
  | .declares _ => true
  | .castable _ _ => true
  | _ => false
theorem ev_nestw_on {w : Cond} (h : ev_nestw w = true) : w.onTables = true := by
  cases w <;> first | rfl | cases h
/-- what holds of a state whatever its method: the classes' tables, the nest mates' words, what a throw needs, the texts -/
def ev_Sr (D : va_G) (cl : List vw_C) (cs : Nat → ClassId) (Tn : List Cond) (Tq : EQ) (A : Nat → Prop) (U : State) : Prop :=
  va_K D cl (ev_tys cs) U ∧ (∀ q, U.heap.size ≤ q → A q) ∧ (∀ w ∈ Tn, ev_nestw w = true ∧ va_Nw w U) ∧ vx_Zq Bundle.tN "UNASSIGNED_STACK" Bundle.steD A U U.heap ∧ vx_Zq Bundle.tN "SUPPRESSED_SENTINEL" Bundle.listD A U U.heap ∧
    (∀ q ∈ Tq.1, ∃ sa, vk_R q.1 q.2.1 q.2.2 sa U) ∧ ∀ q ∈ Tq.2, va_Nc q.1 q.2 U
/-- what holds of the frame's surroundings -/
def ev_Cx (p : Program) (R : Room) (s : State) (m : MethodId) (args : Array Value) (c : Code) (cc : ByteArray) (nL : Nat) (hh : List (Nat × Nat × Nat × Nat)) (own : String) (Ts Tn : List Cond) (Tq : EQ) (D : va_G) (cl : List vw_C) (cs : Nat → ClassId) (A : Nat → Prop) (k0 n0 ck cn : Nat) : Prop :=
  CallFix p m c cc nL s args Ts own ∧ ev_Sr D cl cs Tn Tq A s ∧ c.exceptionTable.toList.map (fun h => (h.startPc, h.endPc, h.handlerPc, h.catchType)) = hh ∧ ck - k0 ≤ R.cells ∧ cn - n0 ≤ R.slots
/-- what Q asks of a frame that returns -/
def ev_Rt (p : Program) (l : Launch) (e : Env) (R : Room) (s : State) (m : MethodId) (args : Array Value) (below : List Frame) (meth : Method) (c : Code) (Q : State → Prop)
    (cc : ByteArray) (D : va_G) (cl : List vw_C) (cs : Nat → ClassId) (ox : Nat → Nat) (A : Nat → Prop) (al0 : List Nat) (k0 n0 : Nat) (v : Option Value) (hs : EH) : Prop :=
  ∀ (al : List Nat) (H : Heap) (locs : List Loc) (ls : Array Slot) (pc : Nat) (ig : Instr), ev_Wd D cl cs ox A s.heap al0 al hs.1 H locs → (∀ w ∈ v.toList, ev_ok hs.1.length w) → ev_ret v ig → decode cc pc = .ok (ig, 1) → k0 ≤ hs.2.1 → n0 ≤ hs.2.2 →
    W p l e R s m args below meth c H locs (hs.2.1 - k0) (hs.2.2 - n0) Q (F0 m pc ls (v.toList.map (ev_rv ox al)))
/-- what Q asks of a frame that throws E -/
def ev_Th (l : Launch) (s : State) (args : Array Value) (below : List Frame) (meth : Method) (c : Code) (Q : State → Prop)
    (D : va_G) (cl : List vw_C) (cs : Nat → ClassId) (ox : Nat → Nat) (A : Nat → Prop) (al0 : List Nat) (k0 n0 : Nat) (E : String) (hs : EH) : Prop :=
  l.stackTraces = false ∧ meth.locks = false ∧ (∀ x ∈ c.exceptionTable.toList, False) ∧ ∃ (Qc : Array Value → State → Outcome → State → Prop) (XC : String → State → State → Prop),
    Q = vx_MQ below Qc XC args s (hs.2.1 - k0) (hs.2.2 - n0) A ∧ ∀ (al : List Nat) (H : Heap) (locs : List Loc), ev_Wd D cl cs ox A s.heap al0 al hs.1 H locs → ∀ t : State, t.heap = H → s.vm.Alike t.vm → XC E s t
/-- the action a does what the instruction at pc does -/
def ev_Ok (cc : ByteArray) (nL : Nat) (hh : List (Nat × Nat × Nat × Nat)) (own : String) (Ts Tn : List Cond) (Tq : EQ) (cl : List vw_C) (isI : Bool) (CO : Launch → Room → (Nat → ClassId) → va_G → (Nat → Nat) → (Nat → Prop) → ECall → Prop) (pc : Nat) (a : EA) : Prop :=
  ∀ (p : Program) (l : Launch) (e : Env) (R : Room) (s : State) (m : MethodId) (args : Array Value) (below : List Frame) (meth : Method) (c : Code) (Q : State → Prop) (D : va_G) (cs : Nat → ClassId) (ox : Nat → Nat) (A : Nat → Prop) (al0 : List Nat) (k0 n0 : Nat) (call : ECall) (kont : EK) (f : EF) (hs : EH) (o : Option Value ⊕ String) (hs' : EH),
    ev_Cx p R s m args c cc nL hh own Ts Tn Tq D cl cs A k0 n0 hs'.2.1 hs'.2.2 → (isI = true → meth.name = "<init>") → CO l R cs D ox A call →
    (∀ v, o = .inl v → ev_Rt p l e R s m args below meth c Q cc D cl cs ox A al0 k0 n0 v hs') →
    (∀ E, o = .inr E → ev_Th l s args below meth c Q D cl cs ox A al0 k0 n0 E hs') →
    f.1 = pc → a call kont f hs = some (o, hs') →
    (∀ f1 h1, kont f1 h1 = some (o, hs') → ev_G p l e R s m args below meth c Q D cl cs ox A al0 nL k0 n0 hs'.2.1 hs'.2.2 f1 h1) →
    ev_G p l e R s m args below meth c Q D cl cs ox A al0 nL k0 n0 hs'.2.1 hs'.2.2 f hs

theorem ev_allc {α : Type} {P : α → Prop} {x : α} {r : List α} (h1 : P x) (h2 : ∀ v ∈ r, P v) : ∀ v ∈ x :: r, P v := List.forall_mem_cons.mpr ⟨h1, h2⟩
theorem ev_hd {α : Type} {P : α → Prop} {x : α} {r : List α} (h : ∀ v ∈ x :: r, P v) : P x := h x List.mem_cons_self
theorem ev_tl {α : Type} {P : α → Prop} {x : α} {r : List α} (h : ∀ v ∈ x :: r, P v) : ∀ v ∈ r, P v := fun v hv => h v (List.mem_cons_of_mem _ hv)

def a_ii (n : Nat) (g : Int32 → Int32 → Int32) : EA := fun _ k f hs => match f.2.2 with
  | .int y :: .int x :: st => k (f.1 + n, f.2.1, .int (g x y) :: st) hs
  | _ => none
def a_iiN (g : Int32 → Int32 → Int32) : EA := fun _ k f hs => match f.2.2 with
  | .int y :: .int x :: st => if y = 0 then none else k (f.1 + 1, f.2.1, .int (g x y) :: st) hs
  | _ => none
def a_i (g : Int32 → Value) : EA := fun _ k f hs => match f.2.2 with
  | .int x :: st => k (f.1 + 1, f.2.1, g x :: st) hs
  | _ => none
def a_ll (g : Int64 → Int64 → Value) : EA := fun _ k f hs => match f.2.2 with
  | .long y :: .long x :: st => k (f.1 + 1, f.2.1, g x y :: st) hs
  | _ => none
def a_push (n : Nat) (v : Value) : EA := fun _ k f hs => k (f.1 + n, f.2.1, v :: f.2.2) hs
def a_goto (t : Nat) : EA := fun _ k f hs => k (t, f.2.1, f.2.2) hs
def a_if (t : Nat) (b : Int32 → Bool) : EA := fun _ k f hs => match f.2.2 with
  | .int x :: st => bif b x then k (t, f.2.1, st) hs else k (f.1 + 3, f.2.1, st) hs
  | _ => none
def a_ic (t : Nat) (b : Int32 → Int32 → Bool) : EA := fun _ k f hs => match f.2.2 with
  | .int y :: .int x :: st => bif b x y then k (t, f.2.1, st) hs else k (f.1 + 3, f.2.1, st) hs
  | _ => none
def ev_look : List (Nat × Value) → Nat → Option Value
  | [], _ => none
  | q :: r, i => bif Nat.beq q.1 i then some q.2 else ev_look r i
def a_iload (n i : Nat) : EA := fun _ k f hs => match ev_look f.2.1 i with
  | some (.int x) => k (f.1 + n, f.2.1, .int x :: f.2.2) hs
  | _ => none
def a_lload (n i : Nat) : EA := fun _ k f hs => match ev_look f.2.1 i with
  | some (.long x) => k (f.1 + n, f.2.1, .long x :: f.2.2) hs
  | _ => none
def a_dload (n i : Nat) : EA := fun _ k f hs => match ev_look f.2.1 i with
  | some (.double x) => k (f.1 + n, f.2.1, .double x :: f.2.2) hs
  | _ => none
def a_aload (n i : Nat) : EA := fun _ k f hs => match ev_look f.2.1 i with
  | some (.ref x) => k (f.1 + n, f.2.1, .ref x :: f.2.2) hs
  | some (.float x) => k (f.1 + n, f.2.1, .float x :: f.2.2) hs
  | _ => none
def ev_st1 (lo : List (Nat × Value)) (i : Nat) (v : Value) : List (Nat × Value) := (i, v) :: lo.filter (fun q => !(q.1 == i) && !(q.1 + 1 == i && q.2.category == 2))
def ev_st2 (lo : List (Nat × Value)) (i : Nat) (v : Value) : List (Nat × Value) := (i, v) :: lo.filter (fun q => !(q.1 == i) && (!(q.1 == i + 1) && !(q.1 + 1 == i && q.2.category == 2)))
def a_istore (nL n i : Nat) : EA := fun _ k f hs => match f.2.2 with
  | .int x :: st => if i < nL then k (f.1 + n, ev_st1 f.2.1 i (.int x), st) hs else none
  | _ => none
def a_astore (nL n i : Nat) : EA := fun _ k f hs => match f.2.2 with
  | .ref x :: st => if i < nL then k (f.1 + n, ev_st1 f.2.1 i (.ref x), st) hs else none
  | .float x :: st => if i < nL then k (f.1 + n, ev_st1 f.2.1 i (.float x), st) hs else none
  | _ => none
def a_lstore (nL n i : Nat) : EA := fun _ k f hs => match f.2.2 with
  | .long x :: st => if i + 1 < nL then k (f.1 + n, ev_st2 f.2.1 i (.long x), st) hs else none
  | _ => none
def a_dstore (nL n i : Nat) : EA := fun _ k f hs => match f.2.2 with
  | .double x :: st => if i + 1 < nL then k (f.1 + n, ev_st2 f.2.1 i (.double x), st) hs else none
  | _ => none
def a_iinc (nL i : Nat) (d : Int32) : EA := fun _ k f hs => match ev_look f.2.1 i with
  | some (.int x) => if i < nL then k (f.1 + 3, ev_st1 f.2.1 i (.int (x + d)), f.2.2) hs else none
  | _ => none
def a_dup : EA := fun _ k f hs => match f.2.2 with
  | v :: st => if v.category = 1 then k (f.1 + 1, f.2.1, v :: v :: st) hs else none
  | _ => none
def a_pop : EA := fun _ k f hs => match f.2.2 with
  | v :: st => if v.category = 1 then k (f.1 + 1, f.2.1, st) hs else none
  | _ => none
def a_dupx1 : EA := fun _ k f hs => match f.2.2 with
  | v :: u :: st => if v.category = 1 ∧ u.category = 1 then k (f.1 + 1, f.2.1, v :: u :: v :: st) hs else none
  | _ => none
def a_dupx2 : EA := fun _ k f hs => match f.2.2 with
  | v :: u :: t :: st => if v.category = 1 ∧ u.category = 1 ∧ t.category = 1 then k (f.1 + 1, f.2.1, v :: u :: t :: v :: st) hs else none
  | _ => none
def a_dup2 : EA := fun _ k f hs => match f.2.2 with
  | v :: u :: st => if v.category = 1 ∧ u.category = 1 then k (f.1 + 1, f.2.1, v :: u :: v :: u :: st) hs else none
  | _ => none
def a_tsw (lo : Int) (ts : List Nat) (t : Nat) : EA := fun _ k f hs => match f.2.2 with
  | .int x :: st => if x.toInt < lo then k (t, f.2.1, st) hs else match ts[(x.toInt - lo).toNat]? with
    | some t1 => k (t1, f.2.1, st) hs
    | none => k (t, f.2.1, st) hs
  | _ => none
def a_iret : EA := fun _ _ f hs => match f.2.2 with
  | [.int x] => some (.inl (some (.int x)), hs)
  | _ => none
def a_lret : EA := fun _ _ f hs => match f.2.2 with
  | [.long x] => some (.inl (some (.long x)), hs)
  | _ => none
def a_dret : EA := fun _ _ f hs => match f.2.2 with
  | [.double x] => some (.inl (some (.double x)), hs)
  | _ => none
def a_aret : EA := fun _ _ f hs => match f.2.2 with
  | [.ref x] => some (.inl (some (.ref x)), hs)
  | _ => none
def a_vret : EA := fun _ _ f hs => match f.2.2 with
  | [] => some (.inl none, hs)
  | _ => none
/-! the heap's -/
def a_getf (ci kf : Nat) : EA := fun _ k f hs => match f.2.2 with
  | .ref a :: st => match hs.1[a]? with
    | some (.inr c, fs) => bif Nat.beq c ci then (match fs[kf]? with
      | some v => k (f.1 + 3, f.2.1, v :: st) hs
      | none => none) else none
    | _ => none
  | _ => none
def ev_fit (ty : Nat) (v : Value) : Bool := match v with
  | .int x => bif Nat.beq ty 0 then true else bif Nat.beq ty 1 then decide (x = 0) || decide (x = 1) else false
  | .ref _ => Nat.beq ty 9
  | .float _ => Nat.beq ty 9
  | .null => Nat.beq ty 9
  | .long _ => Nat.beq ty 2
  | _ => false
def a_putf (ty ci kf : Nat) : EA := fun _ k f hs => match f.2.2 with
  | v :: .ref a :: st => match hs.1[a]? with
    | some (.inr c, fs) => bif Nat.beq c ci && (ev_fit ty v && decide (kf < fs.length)) then k (f.1 + 3, f.2.1, st) (hs.1.set a (.inr c, fs.set kf v), hs.2) else none
    | _ => none
  | _ => none
def ev_at (vs : List Value) (i : Int32) : Option Value := if i < 0 then none else vs[i.toNatClampNeg]?
def a_ild (t : Nat) : EA := fun _ k f hs => match f.2.2 with
  | .int i :: .ref a :: st => match hs.1[a]? with
    | some (.inl t', vs) => bif Nat.beq t' t then (match ev_at vs i with
      | some (.int x) => k (f.1 + 1, f.2.1, .int x :: st) hs
      | _ => none) else none
    | _ => none
  | _ => none
def a_lld : EA := fun _ k f hs => match f.2.2 with
  | .int i :: .ref a :: st => match hs.1[a]? with
    | some (.inl t', vs) => bif Nat.beq t' 2 then (match ev_at vs i with
      | some (.long x) => k (f.1 + 1, f.2.1, .long x :: st) hs
      | _ => none) else none
    | _ => none
  | _ => none
def a_ist (t : Nat) : EA := fun _ k f hs => match f.2.2 with
  | .int x :: .int i :: .ref a :: st => match hs.1[a]? with
    | some (.inl t', vs) => bif Nat.beq t' t && ev_fit t (.int x) then (match ev_at vs i with
      | some _ => k (f.1 + 1, f.2.1, st) (hs.1.set a (.inl t', vs.set i.toNatClampNeg (.int x)), hs.2)
      | _ => none) else none
    | _ => none
  | _ => none
def a_lst : EA := fun _ k f hs => match f.2.2 with
  | .long x :: .int i :: .ref a :: st => match hs.1[a]? with
    | some (.inl t', vs) => bif Nat.beq t' 2 then (match ev_at vs i with
      | some _ => k (f.1 + 1, f.2.1, st) (hs.1.set a (.inl t', vs.set i.toNatClampNeg (.long x)), hs.2)
      | _ => none) else none
    | _ => none
  | _ => none
def a_alen : EA := fun _ k f hs => match f.2.2 with
  | .ref a :: st => match hs.1[a]? with
    | some (.inl t, vs) => bif Nat.ble t 2 then k (f.1 + 1, f.2.1, .int (Int32.ofNat vs.length) :: st) hs else none
    | _ => none
  | _ => none
def a_new (ci n : Nat) (fs : List Value) : EA := fun _ k f hs => k (f.1 + 3, f.2.1, .ref hs.1.length :: f.2.2) (hs.1 ++ [(.inr ci, fs)], hs.2.1 + 1, hs.2.2 + n)
def ev_dv (t : Nat) : Value := if t = 2 then .long 0 else .int 0
def a_newa (t : Nat) : EA := fun _ k f hs => match f.2.2 with
  | .int n :: st => if n < 0 then none else bif Nat.ble (n.toNatClampNeg * 8) 536870912 then
      k (f.1 + 2, f.2.1, .ref hs.1.length :: st) (hs.1 ++ [(.inl t, List.replicate n.toNatClampNeg (ev_dv t))], hs.2.1 + 1, hs.2.2 + n.toNatClampNeg) else none
  | _ => none
def a_objI : EA := fun _ k f hs => match f.2.2 with
  | .ref _ :: st => bif Nat.ble (st.map fun v => v.category).sum 8 then k (f.1 + 3, f.2.1, st) hs else none
  | _ => none


theorem ev_rv_cat (ox : Nat → Nat) (al : List Nat) (v : Value) : (ev_rv ox al v).category = v.category := by cases v <;> rfl
theorem ev_look_mem : ∀ (lo : List (Nat × Value)) (i : Nat) (v : Value), ev_look lo i = some v → (i, v) ∈ lo
  | [], _, _, h => by cases h
  | q :: r, i, v, h => by
    unfold ev_look at h
    cases hq : Nat.beq q.1 i with
    | true =>
      rw [hq] at h
      have h1 : q.2 = v := Option.some.inj h
      have h2 : q.1 = i := Nat.eq_of_beq_eq_true hq
      rw [← h1, ← h2]
      exact List.mem_cons_self
    | false =>
      rw [hq] at h
      exact List.mem_cons_of_mem _ (ev_look_mem r i v h)
theorem ev_local {ox : Nat → Nat} {al : List Nat} {ls : Array Slot} {nL : Nat} {lo : List (Nat × Value)} (hl : lv_has ls nL (lo.map (fun q => (q.1, ev_rv ox al q.2)))) {i : Nat} {v : Value} (h : ev_look lo i = some v) : ls[i]? = some (.val (ev_rv ox al v)) :=
  hl.2.2 (i, ev_rv ox al v) (List.mem_map.mpr ⟨(i, v), ev_look_mem lo i v h, rfl⟩)
theorem ev_filt (ox : Nat → Nat) (al : List Nat) (i : Nat) (lo : List (Nat × Value)) : (lo.map (fun q => (q.1, ev_rv ox al q.2))).filter (fun q => !(q.1 == i) && !(q.1 + 1 == i && q.2.category == 2)) = (lo.filter (fun q => !(q.1 == i) && !(q.1 + 1 == i && q.2.category == 2))).map (fun q => (q.1, ev_rv ox al q.2)) := by
  rw [List.filter_map]
  congr 1
  apply List.filter_congr
  intro q _
  simp only [Function.comp_apply, ev_rv_cat]
theorem ev_filt2 (ox : Nat → Nat) (al : List Nat) (i : Nat) (lo : List (Nat × Value)) : (lo.map (fun q => (q.1, ev_rv ox al q.2))).filter (fun q => !(q.1 == i) && (!(q.1 == i + 1) && !(q.1 + 1 == i && q.2.category == 2))) = (lo.filter (fun q => !(q.1 == i) && (!(q.1 == i + 1) && !(q.1 + 1 == i && q.2.category == 2)))).map (fun q => (q.1, ev_rv ox al q.2)) := by
  rw [List.filter_map]
  congr 1
  apply List.filter_congr
  intro q _
  simp only [Function.comp_apply, ev_rv_cat]
theorem ev_st1_eq (ox : Nat → Nat) (al : List Nat) (i : Nat) (lo : List (Nat × Value)) (v : Value) : (i, ev_rv ox al v) :: (lo.map (fun q => (q.1, ev_rv ox al q.2))).filter (fun q => !(q.1 == i) && !(q.1 + 1 == i && q.2.category == 2)) = (ev_st1 lo i v).map (fun q => (q.1, ev_rv ox al q.2)) := by
  rw [ev_filt]; rfl
theorem ev_st2_eq (ox : Nat → Nat) (al : List Nat) (i : Nat) (lo : List (Nat × Value)) (v : Value) : (i, ev_rv ox al v) :: (lo.map (fun q => (q.1, ev_rv ox al q.2))).filter (fun q => !(q.1 == i) && (!(q.1 == i + 1) && !(q.1 + 1 == i && q.2.category == 2))) = (ev_st2 lo i v).map (fun q => (q.1, ev_rv ox al q.2)) := by
  rw [ev_filt2]; rfl
theorem ev_st1_ok {n : Nat} {lo : List (Nat × Value)} {i : Nat} {v : Value} (h : ∀ q ∈ lo, ev_ok n q.2) (hv : ev_ok n v) : ∀ q ∈ ev_st1 lo i v, ev_ok n q.2 := ev_allc (P := fun q : Nat × Value => ev_ok n q.2) hv (fun q hq => h q (List.mem_filter.mp hq).1)
theorem ev_st2_ok {n : Nat} {lo : List (Nat × Value)} {i : Nat} {v : Value} (h : ∀ q ∈ lo, ev_ok n q.2) (hv : ev_ok n v) : ∀ q ∈ ev_st2 lo i v, ev_ok n q.2 := ev_allc (P := fun q : Nat × Value => ev_ok n q.2) hv (fun q hq => h q (List.mem_filter.mp hq).1)
theorem ev_look_ok {n : Nat} {lo : List (Nat × Value)} {i : Nat} {v : Value} (h : ∀ q ∈ lo, ev_ok n q.2) (hv : ev_look lo i = some v) : ev_ok n v := h (i, v) (ev_look_mem lo i v hv)
theorem ev_ok_mono {n k : Nat} (h : n ≤ k) {v : Value} (hv : ev_ok n v) : ev_ok k v := by
  cases v <;> first | trivial | exact Nat.lt_of_lt_of_le hv h
theorem ev_rv_app (ox : Nat → Nat) (al be : List Nat) {v : Value} (h : ev_ok al.length v) : ev_rv ox (al ++ be) v = ev_rv ox al v := by
  cases v with
  | ref a =>
    show Value.ref _ = Value.ref _
    rw [List.getD_eq_getElem?_getD, List.getD_eq_getElem?_getD, List.getElem?_append_left h]
  | _ => rfl
theorem ev_w_len {cs : Nat → ClassId} {ox : Nat → Nat} {al : List Nat} {h : List EC} (hn : al.length = h.length) : (ev_w cs ox al h).length = h.length := by
  unfold ev_w
  rw [List.length_map, List.length_zip, hn, Nat.min_self]
theorem ev_w_get {cs : Nat → ClassId} {ox : Nat → Nat} {al : List Nat} {h : List EC} (hn : al.length = h.length) {a : Nat} {e : EC} (he : h[a]? = some e) : (ev_w cs ox al h)[a]? = some (al.getD a 0, ev_e cs ox al e) := by
  have ha : a < al.length := by rw [hn]; exact (List.getElem?_eq_some_iff.mp he).1
  unfold ev_w
  rw [List.getElem?_map, (List.getElem?_zip_eq_some (z := (al[a], e))).mpr ⟨List.getElem?_eq_getElem ha, he⟩, List.getD_eq_getElem?_getD, List.getElem?_eq_getElem ha]
  rfl
theorem ev_w_ge {cs : Nat → ClassId} {ox : Nat → Nat} {al : List Nat} {h : List EC} {a : Nat} {q : Nat × va_E} (hq : (ev_w cs ox al h)[a]? = some q) : ∃ e, h[a]? = some e ∧ al[a]? = some q.1 ∧ q.2 = ev_e cs ox al e := by
  unfold ev_w at hq
  rw [List.getElem?_map] at hq
  cases hz : (al.zip h)[a]? with
  | none => rw [hz] at hq; cases hq
  | some z =>
    rw [hz] at hq
    obtain ⟨z1, z2⟩ := List.getElem?_zip_eq_some.mp hz
    cases hq
    exact ⟨z.2, z2, z1, rfl⟩
theorem ev_w_set {cs : Nat → ClassId} {ox : Nat → Nat} {al : List Nat} {h : List EC} (hn : al.length = h.length) (a : Nat) (e' : EC) : (ev_w cs ox al h).set a (al.getD a 0, ev_e cs ox al e') = ev_w cs ox al (h.set a e') := by
  apply List.ext_getElem?
  intro j
  rw [List.getElem?_set]
  by_cases hj : a = j
  · subst hj
    rw [if_pos rfl, ev_w_len hn]
    by_cases hl : a < h.length
    · rw [if_pos hl]
      exact (ev_w_get (cs := cs) (ox := ox) (al := al) (h := h.set a e') (by rw [List.length_set]; exact hn) (by rw [List.getElem?_set_self hl])).symm
    · rw [if_neg hl]
      refine (List.getElem?_eq_none ?_).symm
      rw [ev_w_len (by rw [List.length_set]; exact hn), List.length_set]
      omega
  · rw [if_neg hj]
    unfold ev_w
    rw [List.getElem?_map, List.getElem?_map]
    congr 1
    rw [List.zip, List.getElem?_zipWith, List.getElem?_zipWith, List.getElem?_set_ne hj]
theorem ev_e_app {cs : Nat → ClassId} {ox : Nat → Nat} {al : List Nat} (be : List Nat) {e : EC} (h : ∀ v ∈ e.2, ev_ok al.length v) : ev_e cs ox (al ++ be) e = ev_e cs ox al e := by
  unfold ev_e
  split
  · rfl
  · next c _ =>
    have : e.2.map (ev_rv ox (al ++ be)) = e.2.map (ev_rv ox al) := List.map_congr_left (fun v hv => ev_rv_app ox al be (h v hv))
    rw [this]
theorem ev_w_push {cs : Nat → ClassId} {ox : Nat → Nat} {al : List Nat} {h : List EC} (hn : al.length = h.length) (hw : ∀ e ∈ h, ∀ v ∈ e.2, ev_ok h.length v) (q : Nat) {e : EC} (he : ∀ v ∈ e.2, ev_ok al.length v) : ev_w cs ox al h ++ [(q, ev_e cs ox al e)] = ev_w cs ox (al ++ [q]) (h ++ [e]) := by
  unfold ev_w
  rw [List.zip_append hn, List.map_append]
  congr 1
  · apply List.map_congr_left
    intro z hz
    have h1 : z.2 ∈ h := (List.of_mem_zip hz).2
    show (z.1, _) = (z.1, _)
    rw [ev_e_app [q] (fun v hv => by rw [hn]; exact hw _ h1 v hv)]
  · show [(q, _)] = [(q, _)]
    rw [ev_e_app [q] he]
theorem ev_wf_set {h : List EC} (hw : ∀ e ∈ h, ∀ v ∈ e.2, ev_ok h.length v) {a : Nat} {e' : EC} (he : ∀ v ∈ e'.2, ev_ok h.length v) : ∀ e ∈ h.set a e', ∀ v ∈ e.2, ev_ok (h.set a e').length v := by
  intro e h1 v hv
  rw [List.length_set]
  rcases List.mem_or_eq_of_mem_set h1 with h1 | h1
  · exact hw e h1 v hv
  · subst h1; exact he v hv
theorem ev_mem_set {P : Value → Prop} {vs : List Value} {i : Nat} {x : Value} (h : ∀ v ∈ vs, P v) (hx : P x) : ∀ v ∈ vs.set i x, P v := by
  intro v hv
  rcases List.mem_or_eq_of_mem_set hv with h1 | h1
  · exact h v h1
  · subst h1; exact hx
theorem ev_at_spec {vs : List Value} {i : Int32} {v : Value} (h : ev_at vs i = some v) : vp_in i vs.length ∧ vs[i.toNatClampNeg]? = some v := by
  unfold ev_at at h
  by_cases hi : i < 0
  · rw [if_pos hi] at h; cases h
  · rw [if_neg hi] at h
    have hl := (List.getElem?_eq_some_iff.mp h).1
    exact ⟨fun q => by rcases q with q | q; exact hi q; omega, h⟩
theorem ev_upd (vs : List Value) (n : Nat) (x : Int32) (hn : n < vs.length) : upd (fun j => ev_i (vs.getD j (.int 0))) n x = fun j => ev_i ((vs.set n (.int x)).getD j (.int 0)) := by
  funext j
  show (if j = n then x else ev_i (vs.getD j (.int 0))) = _
  rw [List.getD_eq_getElem?_getD, List.getD_eq_getElem?_getD, List.getElem?_set]
  by_cases hj : n = j
  · subst hj
    simp [hn, ev_i]
  · rw [if_neg hj, if_neg (fun h => hj h.symm)]
theorem ev_updL (vs : List Value) (n : Nat) (x : Int64) (hn : n < vs.length) : vp_updL (fun j => ev_l (vs.getD j (.long 0))) n x = fun j => ev_l ((vs.set n (.long x)).getD j (.long 0)) := by
  funext j
  show (if j = n then x else ev_l (vs.getD j (.long 0))) = _
  rw [List.getD_eq_getElem?_getD, List.getD_eq_getElem?_getD, List.getElem?_set]
  by_cases hj : n = j
  · subst hj
    simp [hn, ev_l]
  · rw [if_neg hj, if_neg (fun h => hj h.symm)]

def ev_tc : FieldType → Nat
  | .int => 0
  | .boolean => 1
  | .long => 2
  | .object _ => 9
  | .array _ => 9
  | _ => 5
theorem ev_fit_spec (ox : Nat → Nat) (al : List Nat) (ty : FieldType) {v : Value} (h : ev_fit (ev_tc ty) v = true) : narrow ty (ev_rv ox al v) = ev_rv ox al v ∧ fits ty (ev_rv ox al v) = true := by
  cases ty with
  | boolean =>
    cases v with
    | int x =>
      have h2 : (decide (x = 0) || decide (x = 1)) = true := h
      rcases Bool.or_eq_true_iff.mp h2 with q | q
      · cases of_decide_eq_true q; exact ⟨rfl, rfl⟩
      · cases of_decide_eq_true q; exact ⟨rfl, rfl⟩
    | _ => cases h
  | _ => cases v <;> first | exact ⟨rfl, rfl⟩ | cases h
theorem ev_nar {x : Int32} (h : ev_fit 1 (.int x) = true) : vp_nar .boolean x = x := by
  have h2 : (decide (x = 0) || decide (x = 1)) = true := h
  rcases Bool.or_eq_true_iff.mp h2 with q | q
  · cases of_decide_eq_true q; rfl
  · cases of_decide_eq_true q; rfl
theorem ev_wf_push {h : List EC} (hw : ∀ e ∈ h, ∀ v ∈ e.2, ev_ok h.length v) {e' : EC} (he : ∀ v ∈ e'.2, ev_ok h.length v) : ∀ e ∈ h ++ [e'], ∀ v ∈ e.2, ev_ok (h ++ [e']).length v := by
  intro e h1 v hv
  have hm : h.length ≤ (h ++ [e']).length := by rw [List.length_append]; exact Nat.le_add_right _ _
  rcases List.mem_append.mp h1 with h1 | h1
  · exact ev_ok_mono hm (hw e h1 v hv)
  · rw [List.mem_singleton.mp h1] at hv
    exact ev_ok_mono hm (he v hv)
theorem ev_loc_app {ox : Nat → Nat} {al : List Nat} {n : Nat} (hn : al.length = n) {lo : List (Nat × Value)} (h : ∀ q ∈ lo, ev_ok n q.2) {be : List Nat} : lo.map (fun q : Nat × Value => (q.1, ev_rv ox (al ++ be) q.2)) = lo.map (fun q : Nat × Value => (q.1, ev_rv ox al q.2)) :=
  List.map_congr_left (fun q hq => by rw [ev_rv_app ox al be (by rw [hn]; exact h q hq)])
theorem ev_stk_app {ox : Nat → Nat} {al : List Nat} {n : Nat} (hn : al.length = n) {st : List Value} (h : ∀ v ∈ st, ev_ok n v) {be : List Nat} : st.map (ev_rv ox (al ++ be)) = st.map (ev_rv ox al) :=
  List.map_congr_left (fun v hv => ev_rv_app ox al be (by rw [hn]; exact h v hv))
theorem ev_rv_new (ox : Nat → Nat) {al : List Nat} {n : Nat} (hn : al.length = n) (q : Nat) : ev_rv ox (al ++ [q]) (.ref n) = .ref q := by
  show Value.ref _ = _
  rw [List.getD_eq_getElem?_getD, ← hn, List.getElem?_append_right (Nat.le_refl _), Nat.sub_self]
  rfl
theorem ev_arr_new (t n : Nat) (cA : ClassId) : vp_cell cA (ev_arr t (List.replicate n (ev_dv t))) = arrV cA n (fun _ => if t = 2 then .long 0 else .int 0) := by
  unfold ev_arr ev_dv
  by_cases ht : t = 2
  · simp only [if_pos ht, List.length_replicate]
    show arrV cA n (fun j => .long (ev_l ((List.replicate n (Value.long 0)).getD j (.long 0)))) = _
    congr 1
    funext j
    rw [List.getD_eq_getElem?_getD, List.getElem?_replicate]
    split <;> rfl
  · simp only [if_neg ht, List.length_replicate]
    show arrV cA n (fun j => .int (ev_i ((List.replicate n (Value.int 0)).getD j (.int 0)))) = _
    congr 1
    funext j
    rw [List.getD_eq_getElem?_getD, List.getElem?_replicate]
    split <;> rfl
theorem ev_cats (ox : Nat → Nat) (al : List Nat) (st : List Value) : ((st.map (ev_rv ox al)).map fun v => v.category).sum = (st.map fun v => v.category).sum := by
  rw [List.map_map]
  congr 1
  exact List.map_congr_left (fun v _ => ev_rv_cat ox al v)

section EVO
variable {cc : ByteArray} {nL : Nat} {hh : List (Nat × Nat × Nat × Nat)} {own : String} {Ts Tn : List Cond} {Tq : EQ} {cl : List vw_C} {isI : Bool} {CO : Launch → Room → (Nat → ClassId) → va_G → (Nat → Nat) → (Nat → Prop) → ECall → Prop} {pc : Nat}
theorem ok_iadd (d : decode cc pc = .ok (.iadd, 1)) : ev_Ok cc nL hh own Ts Tn Tq cl isI CO pc (a_ii 1 (fun x y => x + y)) := by
  intro p l e R s m args below meth c Q D cs ox A al0 k0 n0 call kont f hs o hs' cx hI hC hR hT hpc h hk
  obtain ⟨pc', lo, st⟩ := f
  cases hpc
  obtain ⟨⟨hx, hb, hml, hown, hts⟩, ⟨hKK, hA, hNw, hZU, hZS, hTq, hNc⟩, hEx, hRc, hRs⟩ := cx
  match st, h with
  | .int y :: .int x :: st, h =>
    intro h1 h2
    obtain ⟨g1, g2, g3⟩ := hk _ _ h h1 h2
    refine ⟨g1, g2, fun al H locs ls w wl wv hl => ?_⟩
    exact lv_iadd hx hb d (g3 al H locs ls w wl (ev_allc trivial (ev_tl (ev_tl wv))) hl)
theorem ok_isub (d : decode cc pc = .ok (.isub, 1)) : ev_Ok cc nL hh own Ts Tn Tq cl isI CO pc (a_ii 1 (fun x y => x - y)) := by
  intro p l e R s m args below meth c Q D cs ox A al0 k0 n0 call kont f hs o hs' cx hI hC hR hT hpc h hk
  obtain ⟨pc', lo, st⟩ := f
  cases hpc
  obtain ⟨⟨hx, hb, hml, hown, hts⟩, ⟨hKK, hA, hNw, hZU, hZS, hTq, hNc⟩, hEx, hRc, hRs⟩ := cx
  match st, h with
  | .int y :: .int x :: st, h =>
    intro h1 h2
    obtain ⟨g1, g2, g3⟩ := hk _ _ h h1 h2
    refine ⟨g1, g2, fun al H locs ls w wl wv hl => ?_⟩
    exact lv_isub hx hb d (g3 al H locs ls w wl (ev_allc trivial (ev_tl (ev_tl wv))) hl)
theorem ok_imul (d : decode cc pc = .ok (.imul, 1)) : ev_Ok cc nL hh own Ts Tn Tq cl isI CO pc (a_ii 1 (fun x y => x * y)) := by
  intro p l e R s m args below meth c Q D cs ox A al0 k0 n0 call kont f hs o hs' cx hI hC hR hT hpc h hk
  obtain ⟨pc', lo, st⟩ := f
  cases hpc
  obtain ⟨⟨hx, hb, hml, hown, hts⟩, ⟨hKK, hA, hNw, hZU, hZS, hTq, hNc⟩, hEx, hRc, hRs⟩ := cx
  match st, h with
  | .int y :: .int x :: st, h =>
    intro h1 h2
    obtain ⟨g1, g2, g3⟩ := hk _ _ h h1 h2
    refine ⟨g1, g2, fun al H locs ls w wl wv hl => ?_⟩
    exact lv_imul hx hb d (g3 al H locs ls w wl (ev_allc trivial (ev_tl (ev_tl wv))) hl)
theorem ok_iand (d : decode cc pc = .ok (.iand, 1)) : ev_Ok cc nL hh own Ts Tn Tq cl isI CO pc (a_ii 1 (fun x y => x &&& y)) := by
  intro p l e R s m args below meth c Q D cs ox A al0 k0 n0 call kont f hs o hs' cx hI hC hR hT hpc h hk
  obtain ⟨pc', lo, st⟩ := f
  cases hpc
  obtain ⟨⟨hx, hb, hml, hown, hts⟩, ⟨hKK, hA, hNw, hZU, hZS, hTq, hNc⟩, hEx, hRc, hRs⟩ := cx
  match st, h with
  | .int y :: .int x :: st, h =>
    intro h1 h2
    obtain ⟨g1, g2, g3⟩ := hk _ _ h h1 h2
    refine ⟨g1, g2, fun al H locs ls w wl wv hl => ?_⟩
    exact lv_iand hx hb d (g3 al H locs ls w wl (ev_allc trivial (ev_tl (ev_tl wv))) hl)
theorem ok_ior (d : decode cc pc = .ok (.ior, 1)) : ev_Ok cc nL hh own Ts Tn Tq cl isI CO pc (a_ii 1 (fun x y => x ||| y)) := by
  intro p l e R s m args below meth c Q D cs ox A al0 k0 n0 call kont f hs o hs' cx hI hC hR hT hpc h hk
  obtain ⟨pc', lo, st⟩ := f
  cases hpc
  obtain ⟨⟨hx, hb, hml, hown, hts⟩, ⟨hKK, hA, hNw, hZU, hZS, hTq, hNc⟩, hEx, hRc, hRs⟩ := cx
  match st, h with
  | .int y :: .int x :: st, h =>
    intro h1 h2
    obtain ⟨g1, g2, g3⟩ := hk _ _ h h1 h2
    refine ⟨g1, g2, fun al H locs ls w wl wv hl => ?_⟩
    exact lv_ior hx hb d (g3 al H locs ls w wl (ev_allc trivial (ev_tl (ev_tl wv))) hl)
theorem ok_ixor (d : decode cc pc = .ok (.ixor, 1)) : ev_Ok cc nL hh own Ts Tn Tq cl isI CO pc (a_ii 1 (fun x y => x ^^^ y)) := by
  intro p l e R s m args below meth c Q D cs ox A al0 k0 n0 call kont f hs o hs' cx hI hC hR hT hpc h hk
  obtain ⟨pc', lo, st⟩ := f
  cases hpc
  obtain ⟨⟨hx, hb, hml, hown, hts⟩, ⟨hKK, hA, hNw, hZU, hZS, hTq, hNc⟩, hEx, hRc, hRs⟩ := cx
  match st, h with
  | .int y :: .int x :: st, h =>
    intro h1 h2
    obtain ⟨g1, g2, g3⟩ := hk _ _ h h1 h2
    refine ⟨g1, g2, fun al H locs ls w wl wv hl => ?_⟩
    exact lv_ixor hx hb d (g3 al H locs ls w wl (ev_allc trivial (ev_tl (ev_tl wv))) hl)
theorem ok_ishl (d : decode cc pc = .ok (.ishl, 1)) : ev_Ok cc nL hh own Ts Tn Tq cl isI CO pc (a_ii 1 (fun x y => x <<< (y &&& 31))) := by
  intro p l e R s m args below meth c Q D cs ox A al0 k0 n0 call kont f hs o hs' cx hI hC hR hT hpc h hk
  obtain ⟨pc', lo, st⟩ := f
  cases hpc
  obtain ⟨⟨hx, hb, hml, hown, hts⟩, ⟨hKK, hA, hNw, hZU, hZS, hTq, hNc⟩, hEx, hRc, hRs⟩ := cx
  match st, h with
  | .int y :: .int x :: st, h =>
    intro h1 h2
    obtain ⟨g1, g2, g3⟩ := hk _ _ h h1 h2
    refine ⟨g1, g2, fun al H locs ls w wl wv hl => ?_⟩
    exact lv_ishl hx hb d (g3 al H locs ls w wl (ev_allc trivial (ev_tl (ev_tl wv))) hl)
theorem ok_ishr (d : decode cc pc = .ok (.ishr, 1)) : ev_Ok cc nL hh own Ts Tn Tq cl isI CO pc (a_ii 1 (fun x y => x >>> (y &&& 31))) := by
  intro p l e R s m args below meth c Q D cs ox A al0 k0 n0 call kont f hs o hs' cx hI hC hR hT hpc h hk
  obtain ⟨pc', lo, st⟩ := f
  cases hpc
  obtain ⟨⟨hx, hb, hml, hown, hts⟩, ⟨hKK, hA, hNw, hZU, hZS, hTq, hNc⟩, hEx, hRc, hRs⟩ := cx
  match st, h with
  | .int y :: .int x :: st, h =>
    intro h1 h2
    obtain ⟨g1, g2, g3⟩ := hk _ _ h h1 h2
    refine ⟨g1, g2, fun al H locs ls w wl wv hl => ?_⟩
    exact lv_ishr hx hb d (g3 al H locs ls w wl (ev_allc trivial (ev_tl (ev_tl wv))) hl)
theorem ok_iushr (d : decode cc pc = .ok (.iushr, 1)) : ev_Ok cc nL hh own Ts Tn Tq cl isI CO pc (a_ii 1 (fun x y => (x.toUInt32 >>> (y.toUInt32 &&& Int32.toUInt32 31)).toInt32)) := by
  intro p l e R s m args below meth c Q D cs ox A al0 k0 n0 call kont f hs o hs' cx hI hC hR hT hpc h hk
  obtain ⟨pc', lo, st⟩ := f
  cases hpc
  obtain ⟨⟨hx, hb, hml, hown, hts⟩, ⟨hKK, hA, hNw, hZU, hZS, hTq, hNc⟩, hEx, hRc, hRs⟩ := cx
  match st, h with
  | .int y :: .int x :: st, h =>
    intro h1 h2
    obtain ⟨g1, g2, g3⟩ := hk _ _ h h1 h2
    refine ⟨g1, g2, fun al H locs ls w wl wv hl => ?_⟩
    exact lv_iushr hx hb d rfl (g3 al H locs ls w wl (ev_allc trivial (ev_tl (ev_tl wv))) hl)
theorem ok_idiv (d : decode cc pc = .ok (.idiv, 1)) : ev_Ok cc nL hh own Ts Tn Tq cl isI CO pc (a_iiN (fun x y => x / y)) := by
  intro p l e R s m args below meth c Q D cs ox A al0 k0 n0 call kont f hs o hs' cx hI hC hR hT hpc h hk
  obtain ⟨pc', lo, st⟩ := f
  cases hpc
  obtain ⟨⟨hx, hb, hml, hown, hts⟩, ⟨hKK, hA, hNw, hZU, hZS, hTq, hNc⟩, hEx, hRc, hRs⟩ := cx
  match st, h with
  | .int y :: .int x :: st, h =>
    by_cases hy : y = 0
    · have h : (if y = 0 then none else kont (pc' + 1, lo, .int (x / y) :: st) hs) = some (o, hs') := h
      rw [if_pos hy] at h; cases h
    · have h : (if y = 0 then none else kont (pc' + 1, lo, .int (x / y) :: st) hs) = some (o, hs') := h
      rw [if_neg hy] at h
      intro h1 h2
      obtain ⟨g1, g2, g3⟩ := hk _ _ h h1 h2
      refine ⟨g1, g2, fun al H locs ls w wl wv hl => ?_⟩
      exact lv_idiv hx hb d hy (g3 al H locs ls w wl (ev_allc trivial (ev_tl (ev_tl wv))) hl)
theorem ok_irem (d : decode cc pc = .ok (.irem, 1)) : ev_Ok cc nL hh own Ts Tn Tq cl isI CO pc (a_iiN (fun x y => x - x / y * y)) := by
  intro p l e R s m args below meth c Q D cs ox A al0 k0 n0 call kont f hs o hs' cx hI hC hR hT hpc h hk
  obtain ⟨pc', lo, st⟩ := f
  cases hpc
  obtain ⟨⟨hx, hb, hml, hown, hts⟩, ⟨hKK, hA, hNw, hZU, hZS, hTq, hNc⟩, hEx, hRc, hRs⟩ := cx
  match st, h with
  | .int y :: .int x :: st, h =>
    by_cases hy : y = 0
    · have h : (if y = 0 then none else kont (pc' + 1, lo, .int (x - x / y * y) :: st) hs) = some (o, hs') := h
      rw [if_pos hy] at h; cases h
    · have h : (if y = 0 then none else kont (pc' + 1, lo, .int (x - x / y * y) :: st) hs) = some (o, hs') := h
      rw [if_neg hy] at h
      intro h1 h2
      obtain ⟨g1, g2, g3⟩ := hk _ _ h h1 h2
      refine ⟨g1, g2, fun al H locs ls w wl wv hl => ?_⟩
      exact lv_irem hx hb d hy (g3 al H locs ls w wl (ev_allc trivial (ev_tl (ev_tl wv))) hl)
theorem ok_ineg (d : decode cc pc = .ok (.ineg, 1)) : ev_Ok cc nL hh own Ts Tn Tq cl isI CO pc (a_i (fun x => .int (-x))) := by
  intro p l e R s m args below meth c Q D cs ox A al0 k0 n0 call kont f hs o hs' cx hI hC hR hT hpc h hk
  obtain ⟨pc', lo, st⟩ := f
  cases hpc
  obtain ⟨⟨hx, hb, hml, hown, hts⟩, ⟨hKK, hA, hNw, hZU, hZS, hTq, hNc⟩, hEx, hRc, hRs⟩ := cx
  match st, h with
  | .int x :: st, h =>
    intro h1 h2
    obtain ⟨g1, g2, g3⟩ := hk _ _ h h1 h2
    refine ⟨g1, g2, fun al H locs ls w wl wv hl => ?_⟩
    exact lv_ineg hx hb d (g3 al H locs ls w wl (ev_allc trivial (ev_tl wv)) hl)
theorem ok_i2l (d : decode cc pc = .ok (.i2l, 1)) : ev_Ok cc nL hh own Ts Tn Tq cl isI CO pc (a_i (fun x => .long x.toInt64)) := by
  intro p l e R s m args below meth c Q D cs ox A al0 k0 n0 call kont f hs o hs' cx hI hC hR hT hpc h hk
  obtain ⟨pc', lo, st⟩ := f
  cases hpc
  obtain ⟨⟨hx, hb, hml, hown, hts⟩, ⟨hKK, hA, hNw, hZU, hZS, hTq, hNc⟩, hEx, hRc, hRs⟩ := cx
  match st, h with
  | .int x :: st, h =>
    intro h1 h2
    obtain ⟨g1, g2, g3⟩ := hk _ _ h h1 h2
    refine ⟨g1, g2, fun al H locs ls w wl wv hl => ?_⟩
    exact lv_i2l hx hb d rfl (g3 al H locs ls w wl (ev_allc trivial (ev_tl wv)) hl)
theorem ok_i2d (d : decode cc pc = .ok (.i2d, 1)) : ev_Ok cc nL hh own Ts Tn Tq cl isI CO pc (a_i (fun x => .double (FP.i2d x))) := by
  intro p l e R s m args below meth c Q D cs ox A al0 k0 n0 call kont f hs o hs' cx hI hC hR hT hpc h hk
  obtain ⟨pc', lo, st⟩ := f
  cases hpc
  obtain ⟨⟨hx, hb, hml, hown, hts⟩, ⟨hKK, hA, hNw, hZU, hZS, hTq, hNc⟩, hEx, hRc, hRs⟩ := cx
  match st, h with
  | .int x :: st, h =>
    intro h1 h2
    obtain ⟨g1, g2, g3⟩ := hk _ _ h h1 h2
    refine ⟨g1, g2, fun al H locs ls w wl wv hl => ?_⟩
    exact lv_i2d hx hb d (g3 al H locs ls w wl (ev_allc trivial (ev_tl wv)) hl)
theorem ok_ladd (d : decode cc pc = .ok (.ladd, 1)) : ev_Ok cc nL hh own Ts Tn Tq cl isI CO pc (a_ll (fun x y => .long (x + y))) := by
  intro p l e R s m args below meth c Q D cs ox A al0 k0 n0 call kont f hs o hs' cx hI hC hR hT hpc h hk
  obtain ⟨pc', lo, st⟩ := f
  cases hpc
  obtain ⟨⟨hx, hb, hml, hown, hts⟩, ⟨hKK, hA, hNw, hZU, hZS, hTq, hNc⟩, hEx, hRc, hRs⟩ := cx
  match st, h with
  | .long y :: .long x :: st, h =>
    intro h1 h2
    obtain ⟨g1, g2, g3⟩ := hk _ _ h h1 h2
    refine ⟨g1, g2, fun al H locs ls w wl wv hl => ?_⟩
    exact lv_ladd hx hb d (g3 al H locs ls w wl (ev_allc trivial (ev_tl (ev_tl wv))) hl)
theorem ok_lmul (d : decode cc pc = .ok (.lmul, 1)) : ev_Ok cc nL hh own Ts Tn Tq cl isI CO pc (a_ll (fun x y => .long (x * y))) := by
  intro p l e R s m args below meth c Q D cs ox A al0 k0 n0 call kont f hs o hs' cx hI hC hR hT hpc h hk
  obtain ⟨pc', lo, st⟩ := f
  cases hpc
  obtain ⟨⟨hx, hb, hml, hown, hts⟩, ⟨hKK, hA, hNw, hZU, hZS, hTq, hNc⟩, hEx, hRc, hRs⟩ := cx
  match st, h with
  | .long y :: .long x :: st, h =>
    intro h1 h2
    obtain ⟨g1, g2, g3⟩ := hk _ _ h h1 h2
    refine ⟨g1, g2, fun al H locs ls w wl wv hl => ?_⟩
    exact lv_lmul hx hb d (g3 al H locs ls w wl (ev_allc trivial (ev_tl (ev_tl wv))) hl)
theorem ok_lcmp (d : decode cc pc = .ok (.lcmp, 1)) : ev_Ok cc nL hh own Ts Tn Tq cl isI CO pc (a_ll (fun x y => .int (lg_cmp x y))) := by
  intro p l e R s m args below meth c Q D cs ox A al0 k0 n0 call kont f hs o hs' cx hI hC hR hT hpc h hk
  obtain ⟨pc', lo, st⟩ := f
  cases hpc
  obtain ⟨⟨hx, hb, hml, hown, hts⟩, ⟨hKK, hA, hNw, hZU, hZS, hTq, hNc⟩, hEx, hRc, hRs⟩ := cx
  match st, h with
  | .long y :: .long x :: st, h =>
    intro h1 h2
    obtain ⟨g1, g2, g3⟩ := hk _ _ h h1 h2
    refine ⟨g1, g2, fun al H locs ls w wl wv hl => ?_⟩
    exact W.lcmp hx hb d (g3 al H locs ls w wl (ev_allc trivial (ev_tl (ev_tl wv))) hl)
theorem ok_iconst {n : Int} {v : Int32} (d : decode cc pc = .ok (.iconst n, 1)) (hv : Int32.ofInt n = v) : ev_Ok cc nL hh own Ts Tn Tq cl isI CO pc (a_push 1 (.int v)) := by
  intro p l e R s m args below meth c Q D cs ox A al0 k0 n0 call kont f hs o hs' cx hI hC hR hT hpc h hk
  obtain ⟨pc', lo, st⟩ := f
  cases hpc
  obtain ⟨⟨hx, hb, hml, hown, hts⟩, ⟨hKK, hA, hNw, hZU, hZS, hTq, hNc⟩, hEx, hRc, hRs⟩ := cx
  intro h1 h2
  obtain ⟨g1, g2, g3⟩ := hk _ _ h h1 h2
  refine ⟨g1, g2, fun al H locs ls w wl wv hl => ?_⟩
  exact lv_iconst hx hb d hv (g3 al H locs ls w wl (ev_allc trivial wv) hl)
theorem ok_bipush {n : Int} {v : Int32} (d : decode cc pc = .ok (.bipush n, 2)) (hv : (Int8.ofInt n).toInt32 = v) : ev_Ok cc nL hh own Ts Tn Tq cl isI CO pc (a_push 2 (.int v)) := by
  intro p l e R s m args below meth c Q D cs ox A al0 k0 n0 call kont f hs o hs' cx hI hC hR hT hpc h hk
  obtain ⟨pc', lo, st⟩ := f
  cases hpc
  obtain ⟨⟨hx, hb, hml, hown, hts⟩, ⟨hKK, hA, hNw, hZU, hZS, hTq, hNc⟩, hEx, hRc, hRs⟩ := cx
  intro h1 h2
  obtain ⟨g1, g2, g3⟩ := hk _ _ h h1 h2
  refine ⟨g1, g2, fun al H locs ls w wl wv hl => ?_⟩
  exact lv_bipush hx hb d hv (g3 al H locs ls w wl (ev_allc trivial wv) hl)
theorem ok_sipush {n : Int} {v : Int32} (d : decode cc pc = .ok (.sipush n, 3)) (hv : (Int16.ofInt n).toInt32 = v) : ev_Ok cc nL hh own Ts Tn Tq cl isI CO pc (a_push 3 (.int v)) := by
  intro p l e R s m args below meth c Q D cs ox A al0 k0 n0 call kont f hs o hs' cx hI hC hR hT hpc h hk
  obtain ⟨pc', lo, st⟩ := f
  cases hpc
  obtain ⟨⟨hx, hb, hml, hown, hts⟩, ⟨hKK, hA, hNw, hZU, hZS, hTq, hNc⟩, hEx, hRc, hRs⟩ := cx
  intro h1 h2
  obtain ⟨g1, g2, g3⟩ := hk _ _ h h1 h2
  refine ⟨g1, g2, fun al H locs ls w wl wv hl => ?_⟩
  exact lv_sipush hx hb d hv (g3 al H locs ls w wl (ev_allc trivial wv) hl)
theorem ok_dconst0 (d : decode cc pc = .ok (.dconst 0, 1)) : ev_Ok cc nL hh own Ts Tn Tq cl isI CO pc (a_push 1 (.double FP.dconst0)) := by
  intro p l e R s m args below meth c Q D cs ox A al0 k0 n0 call kont f hs o hs' cx hI hC hR hT hpc h hk
  obtain ⟨pc', lo, st⟩ := f
  cases hpc
  obtain ⟨⟨hx, hb, hml, hown, hts⟩, ⟨hKK, hA, hNw, hZU, hZS, hTq, hNc⟩, hEx, hRc, hRs⟩ := cx
  intro h1 h2
  obtain ⟨g1, g2, g3⟩ := hk _ _ h h1 h2
  refine ⟨g1, g2, fun al H locs ls w wl wv hl => ?_⟩
  exact lv_dconst0 hx hb d (g3 al H locs ls w wl (ev_allc trivial wv) hl)
theorem ok_ldc {index : Nat} {v : Int32} (d : decode cc pc = .ok (.ldc index, 2)) (hw : Cond.constant own index v ∈ Ts) : ev_Ok cc nL hh own Ts Tn Tq cl isI CO pc (a_push 2 (.int v)) := by
  intro p l e R s m args below meth c Q D cs ox A al0 k0 n0 call kont f hs o hs' cx hI hC hR hT hpc h hk
  obtain ⟨pc', lo, st⟩ := f
  cases hpc
  obtain ⟨⟨hx, hb, hml, hown, hts⟩, ⟨hKK, hA, hNw, hZU, hZS, hTq, hNc⟩, hEx, hRc, hRs⟩ := cx
  intro h1 h2
  obtain ⟨g1, g2, g3⟩ := hk _ _ h h1 h2
  refine ⟨g1, g2, fun al H locs ls w wl wv hl => ?_⟩
  exact lv_ldc hx hb hown (hts _ hw) d (g3 al H locs ls w wl (ev_allc trivial wv) hl)
theorem ok_ldcw {index : Nat} {v : Int32} (d : decode cc pc = .ok (.ldc_w index, 3)) (hw : Cond.constant own index v ∈ Ts) : ev_Ok cc nL hh own Ts Tn Tq cl isI CO pc (a_push 3 (.int v)) := by
  intro p l e R s m args below meth c Q D cs ox A al0 k0 n0 call kont f hs o hs' cx hI hC hR hT hpc h hk
  obtain ⟨pc', lo, st⟩ := f
  cases hpc
  obtain ⟨⟨hx, hb, hml, hown, hts⟩, ⟨hKK, hA, hNw, hZU, hZS, hTq, hNc⟩, hEx, hRc, hRs⟩ := cx
  intro h1 h2
  obtain ⟨g1, g2, g3⟩ := hk _ _ h h1 h2
  refine ⟨g1, g2, fun al H locs ls w wl wv hl => ?_⟩
  exact lv_ldcw hx hb hown (hts _ hw) d (g3 al H locs ls w wl (ev_allc trivial wv) hl)
theorem ok_ldc2 {index : Nat} {v : Int64} (d : decode cc pc = .ok (.ldc2_w index, 3)) (hw : Cond.constantLong own index v ∈ Ts) : ev_Ok cc nL hh own Ts Tn Tq cl isI CO pc (a_push 3 (.long v)) := by
  intro p l e R s m args below meth c Q D cs ox A al0 k0 n0 call kont f hs o hs' cx hI hC hR hT hpc h hk
  obtain ⟨pc', lo, st⟩ := f
  cases hpc
  obtain ⟨⟨hx, hb, hml, hown, hts⟩, ⟨hKK, hA, hNw, hZU, hZS, hTq, hNc⟩, hEx, hRc, hRs⟩ := cx
  intro h1 h2
  obtain ⟨g1, g2, g3⟩ := hk _ _ h h1 h2
  refine ⟨g1, g2, fun al H locs ls w wl wv hl => ?_⟩
  exact lv_ldc2 hx hb hown (hts _ hw) d (g3 al H locs ls w wl (ev_allc trivial wv) hl)
theorem ok_goto {off : Int} {t : Nat} (d : decode cc pc = .ok (.goto off, 3)) (ht : (pc : Int) + off = (t : Int)) : ev_Ok cc nL hh own Ts Tn Tq cl isI CO pc (a_goto t) := by
  intro p l e R s m args below meth c Q D cs ox A al0 k0 n0 call kont f hs o hs' cx hI hC hR hT hpc h hk
  obtain ⟨pc', lo, st⟩ := f
  cases hpc
  obtain ⟨⟨hx, hb, hml, hown, hts⟩, ⟨hKK, hA, hNw, hZU, hZS, hTq, hNc⟩, hEx, hRc, hRs⟩ := cx
  intro h1 h2
  obtain ⟨g1, g2, g3⟩ := hk _ _ h h1 h2
  refine ⟨g1, g2, fun al H locs ls w wl wv hl => ?_⟩
  exact lv_goto hx hb d ht (g3 al H locs ls w wl wv hl)
theorem ok_if_eq {off : Int} {t : Nat} (d : decode cc pc = .ok (.ifCond .eq off, 3)) (ht : (pc : Int) + off = (t : Int)) : ev_Ok cc nL hh own Ts Tn Tq cl isI CO pc (a_if t (fun x => decide (x = 0))) := by
  intro p l e R s m args below meth c Q D cs ox A al0 k0 n0 call kont f hs o hs' cx hI hC hR hT hpc h hk
  obtain ⟨pc', lo, st⟩ := f
  cases hpc
  obtain ⟨⟨hx, hb, hml, hown, hts⟩, ⟨hKK, hA, hNw, hZU, hZS, hTq, hNc⟩, hEx, hRc, hRs⟩ := cx
  match st, h with
  | .int x :: st, h =>
    have h : (bif decide (x = 0) then kont (t, lo, st) hs else kont (pc' + 3, lo, st) hs) = some (o, hs') := h
    by_cases q : x = 0
    · rw [decide_eq_true q] at h
      intro h1 h2
      obtain ⟨g1, g2, g3⟩ := hk _ _ h h1 h2
      refine ⟨g1, g2, fun al H locs ls w wl wv hl => ?_⟩
      refine lv_if_eq hx hb d ht (fun q' => ?_) (fun q' => ?_)
      · exact g3 al H locs ls w wl (ev_tl wv) hl
      · exact absurd q q'
    · rw [decide_eq_false q] at h
      intro h1 h2
      obtain ⟨g1, g2, g3⟩ := hk _ _ h h1 h2
      refine ⟨g1, g2, fun al H locs ls w wl wv hl => ?_⟩
      refine lv_if_eq hx hb d ht (fun q' => ?_) (fun q' => ?_)
      · exact absurd q' q
      · exact g3 al H locs ls w wl (ev_tl wv) hl
theorem ok_if_ne {off : Int} {t : Nat} (d : decode cc pc = .ok (.ifCond .ne off, 3)) (ht : (pc : Int) + off = (t : Int)) : ev_Ok cc nL hh own Ts Tn Tq cl isI CO pc (a_if t (fun x => !decide (x = 0))) := by
  intro p l e R s m args below meth c Q D cs ox A al0 k0 n0 call kont f hs o hs' cx hI hC hR hT hpc h hk
  obtain ⟨pc', lo, st⟩ := f
  cases hpc
  obtain ⟨⟨hx, hb, hml, hown, hts⟩, ⟨hKK, hA, hNw, hZU, hZS, hTq, hNc⟩, hEx, hRc, hRs⟩ := cx
  match st, h with
  | .int x :: st, h =>
    have h : (bif !decide (x = 0) then kont (t, lo, st) hs else kont (pc' + 3, lo, st) hs) = some (o, hs') := h
    by_cases q : x = 0
    · rw [decide_eq_true q] at h
      intro h1 h2
      obtain ⟨g1, g2, g3⟩ := hk _ _ h h1 h2
      refine ⟨g1, g2, fun al H locs ls w wl wv hl => ?_⟩
      refine lv_if_ne hx hb d ht (fun q' => ?_) (fun q' => ?_)
      · exact absurd q q'
      · exact g3 al H locs ls w wl (ev_tl wv) hl
    · rw [decide_eq_false q] at h
      intro h1 h2
      obtain ⟨g1, g2, g3⟩ := hk _ _ h h1 h2
      refine ⟨g1, g2, fun al H locs ls w wl wv hl => ?_⟩
      refine lv_if_ne hx hb d ht (fun q' => ?_) (fun q' => ?_)
      · exact g3 al H locs ls w wl (ev_tl wv) hl
      · exact absurd q' q
theorem ok_if_lt {off : Int} {t : Nat} (d : decode cc pc = .ok (.ifCond .lt off, 3)) (ht : (pc : Int) + off = (t : Int)) : ev_Ok cc nL hh own Ts Tn Tq cl isI CO pc (a_if t (fun x => decide (x < 0))) := by
  intro p l e R s m args below meth c Q D cs ox A al0 k0 n0 call kont f hs o hs' cx hI hC hR hT hpc h hk
  obtain ⟨pc', lo, st⟩ := f
  cases hpc
  obtain ⟨⟨hx, hb, hml, hown, hts⟩, ⟨hKK, hA, hNw, hZU, hZS, hTq, hNc⟩, hEx, hRc, hRs⟩ := cx
  match st, h with
  | .int x :: st, h =>
    have h : (bif decide (x < 0) then kont (t, lo, st) hs else kont (pc' + 3, lo, st) hs) = some (o, hs') := h
    by_cases q : x < 0
    · rw [decide_eq_true q] at h
      intro h1 h2
      obtain ⟨g1, g2, g3⟩ := hk _ _ h h1 h2
      refine ⟨g1, g2, fun al H locs ls w wl wv hl => ?_⟩
      refine lv_if_lt hx hb d ht (fun q' => ?_) (fun q' => ?_)
      · exact g3 al H locs ls w wl (ev_tl wv) hl
      · exact absurd q q'
    · rw [decide_eq_false q] at h
      intro h1 h2
      obtain ⟨g1, g2, g3⟩ := hk _ _ h h1 h2
      refine ⟨g1, g2, fun al H locs ls w wl wv hl => ?_⟩
      refine lv_if_lt hx hb d ht (fun q' => ?_) (fun q' => ?_)
      · exact absurd q' q
      · exact g3 al H locs ls w wl (ev_tl wv) hl
theorem ok_if_ge {off : Int} {t : Nat} (d : decode cc pc = .ok (.ifCond .ge off, 3)) (ht : (pc : Int) + off = (t : Int)) : ev_Ok cc nL hh own Ts Tn Tq cl isI CO pc (a_if t (fun x => decide (0 ≤ x))) := by
  intro p l e R s m args below meth c Q D cs ox A al0 k0 n0 call kont f hs o hs' cx hI hC hR hT hpc h hk
  obtain ⟨pc', lo, st⟩ := f
  cases hpc
  obtain ⟨⟨hx, hb, hml, hown, hts⟩, ⟨hKK, hA, hNw, hZU, hZS, hTq, hNc⟩, hEx, hRc, hRs⟩ := cx
  match st, h with
  | .int x :: st, h =>
    have h : (bif decide (0 ≤ x) then kont (t, lo, st) hs else kont (pc' + 3, lo, st) hs) = some (o, hs') := h
    by_cases q : 0 ≤ x
    · rw [decide_eq_true q] at h
      intro h1 h2
      obtain ⟨g1, g2, g3⟩ := hk _ _ h h1 h2
      refine ⟨g1, g2, fun al H locs ls w wl wv hl => ?_⟩
      refine lv_if_ge hx hb d ht (fun q' => ?_) (fun q' => ?_)
      · exact g3 al H locs ls w wl (ev_tl wv) hl
      · exact absurd q q'
    · rw [decide_eq_false q] at h
      intro h1 h2
      obtain ⟨g1, g2, g3⟩ := hk _ _ h h1 h2
      refine ⟨g1, g2, fun al H locs ls w wl wv hl => ?_⟩
      refine lv_if_ge hx hb d ht (fun q' => ?_) (fun q' => ?_)
      · exact absurd q' q
      · exact g3 al H locs ls w wl (ev_tl wv) hl
theorem ok_if_gt {off : Int} {t : Nat} (d : decode cc pc = .ok (.ifCond .gt off, 3)) (ht : (pc : Int) + off = (t : Int)) : ev_Ok cc nL hh own Ts Tn Tq cl isI CO pc (a_if t (fun x => decide (0 < x))) := by
  intro p l e R s m args below meth c Q D cs ox A al0 k0 n0 call kont f hs o hs' cx hI hC hR hT hpc h hk
  obtain ⟨pc', lo, st⟩ := f
  cases hpc
  obtain ⟨⟨hx, hb, hml, hown, hts⟩, ⟨hKK, hA, hNw, hZU, hZS, hTq, hNc⟩, hEx, hRc, hRs⟩ := cx
  match st, h with
  | .int x :: st, h =>
    have h : (bif decide (0 < x) then kont (t, lo, st) hs else kont (pc' + 3, lo, st) hs) = some (o, hs') := h
    by_cases q : 0 < x
    · rw [decide_eq_true q] at h
      intro h1 h2
      obtain ⟨g1, g2, g3⟩ := hk _ _ h h1 h2
      refine ⟨g1, g2, fun al H locs ls w wl wv hl => ?_⟩
      refine lv_if_gt hx hb d ht (fun q' => ?_) (fun q' => ?_)
      · exact g3 al H locs ls w wl (ev_tl wv) hl
      · exact absurd q q'
    · rw [decide_eq_false q] at h
      intro h1 h2
      obtain ⟨g1, g2, g3⟩ := hk _ _ h h1 h2
      refine ⟨g1, g2, fun al H locs ls w wl wv hl => ?_⟩
      refine lv_if_gt hx hb d ht (fun q' => ?_) (fun q' => ?_)
      · exact absurd q' q
      · exact g3 al H locs ls w wl (ev_tl wv) hl
theorem ok_if_le {off : Int} {t : Nat} (d : decode cc pc = .ok (.ifCond .le off, 3)) (ht : (pc : Int) + off = (t : Int)) : ev_Ok cc nL hh own Ts Tn Tq cl isI CO pc (a_if t (fun x => decide (x ≤ 0))) := by
  intro p l e R s m args below meth c Q D cs ox A al0 k0 n0 call kont f hs o hs' cx hI hC hR hT hpc h hk
  obtain ⟨pc', lo, st⟩ := f
  cases hpc
  obtain ⟨⟨hx, hb, hml, hown, hts⟩, ⟨hKK, hA, hNw, hZU, hZS, hTq, hNc⟩, hEx, hRc, hRs⟩ := cx
  match st, h with
  | .int x :: st, h =>
    have h : (bif decide (x ≤ 0) then kont (t, lo, st) hs else kont (pc' + 3, lo, st) hs) = some (o, hs') := h
    by_cases q : x ≤ 0
    · rw [decide_eq_true q] at h
      intro h1 h2
      obtain ⟨g1, g2, g3⟩ := hk _ _ h h1 h2
      refine ⟨g1, g2, fun al H locs ls w wl wv hl => ?_⟩
      refine lv_if_le hx hb d ht (fun q' => ?_) (fun q' => ?_)
      · exact g3 al H locs ls w wl (ev_tl wv) hl
      · exact absurd q q'
    · rw [decide_eq_false q] at h
      intro h1 h2
      obtain ⟨g1, g2, g3⟩ := hk _ _ h h1 h2
      refine ⟨g1, g2, fun al H locs ls w wl wv hl => ?_⟩
      refine lv_if_le hx hb d ht (fun q' => ?_) (fun q' => ?_)
      · exact absurd q' q
      · exact g3 al H locs ls w wl (ev_tl wv) hl
theorem ok_icmp_eq {off : Int} {t : Nat} (d : decode cc pc = .ok (.if_icmp .eq off, 3)) (ht : (pc : Int) + off = (t : Int)) : ev_Ok cc nL hh own Ts Tn Tq cl isI CO pc (a_ic t (fun x y => decide (x = y))) := by
  intro p l e R s m args below meth c Q D cs ox A al0 k0 n0 call kont f hs o hs' cx hI hC hR hT hpc h hk
  obtain ⟨pc', lo, st⟩ := f
  cases hpc
  obtain ⟨⟨hx, hb, hml, hown, hts⟩, ⟨hKK, hA, hNw, hZU, hZS, hTq, hNc⟩, hEx, hRc, hRs⟩ := cx
  match st, h with
  | .int y :: .int x :: st, h =>
    have h : (bif decide (x = y) then kont (t, lo, st) hs else kont (pc' + 3, lo, st) hs) = some (o, hs') := h
    by_cases q : x = y
    · rw [decide_eq_true q] at h
      intro h1 h2
      obtain ⟨g1, g2, g3⟩ := hk _ _ h h1 h2
      refine ⟨g1, g2, fun al H locs ls w wl wv hl => ?_⟩
      refine lv_icmp_eq hx hb d ht (fun q' => ?_) (fun q' => ?_)
      · exact g3 al H locs ls w wl (ev_tl (ev_tl wv)) hl
      · exact absurd q q'
    · rw [decide_eq_false q] at h
      intro h1 h2
      obtain ⟨g1, g2, g3⟩ := hk _ _ h h1 h2
      refine ⟨g1, g2, fun al H locs ls w wl wv hl => ?_⟩
      refine lv_icmp_eq hx hb d ht (fun q' => ?_) (fun q' => ?_)
      · exact absurd q' q
      · exact g3 al H locs ls w wl (ev_tl (ev_tl wv)) hl
theorem ok_icmp_ne {off : Int} {t : Nat} (d : decode cc pc = .ok (.if_icmp .ne off, 3)) (ht : (pc : Int) + off = (t : Int)) : ev_Ok cc nL hh own Ts Tn Tq cl isI CO pc (a_ic t (fun x y => !decide (x = y))) := by
  intro p l e R s m args below meth c Q D cs ox A al0 k0 n0 call kont f hs o hs' cx hI hC hR hT hpc h hk
  obtain ⟨pc', lo, st⟩ := f
  cases hpc
  obtain ⟨⟨hx, hb, hml, hown, hts⟩, ⟨hKK, hA, hNw, hZU, hZS, hTq, hNc⟩, hEx, hRc, hRs⟩ := cx
  match st, h with
  | .int y :: .int x :: st, h =>
    have h : (bif !decide (x = y) then kont (t, lo, st) hs else kont (pc' + 3, lo, st) hs) = some (o, hs') := h
    by_cases q : x = y
    · rw [decide_eq_true q] at h
      intro h1 h2
      obtain ⟨g1, g2, g3⟩ := hk _ _ h h1 h2
      refine ⟨g1, g2, fun al H locs ls w wl wv hl => ?_⟩
      refine lv_icmp_ne hx hb d ht (fun q' => ?_) (fun q' => ?_)
      · exact absurd q q'
      · exact g3 al H locs ls w wl (ev_tl (ev_tl wv)) hl
    · rw [decide_eq_false q] at h
      intro h1 h2
      obtain ⟨g1, g2, g3⟩ := hk _ _ h h1 h2
      refine ⟨g1, g2, fun al H locs ls w wl wv hl => ?_⟩
      refine lv_icmp_ne hx hb d ht (fun q' => ?_) (fun q' => ?_)
      · exact g3 al H locs ls w wl (ev_tl (ev_tl wv)) hl
      · exact absurd q' q
theorem ok_icmp_lt {off : Int} {t : Nat} (d : decode cc pc = .ok (.if_icmp .lt off, 3)) (ht : (pc : Int) + off = (t : Int)) : ev_Ok cc nL hh own Ts Tn Tq cl isI CO pc (a_ic t (fun x y => decide (x < y))) := by
  intro p l e R s m args below meth c Q D cs ox A al0 k0 n0 call kont f hs o hs' cx hI hC hR hT hpc h hk
  obtain ⟨pc', lo, st⟩ := f
  cases hpc
  obtain ⟨⟨hx, hb, hml, hown, hts⟩, ⟨hKK, hA, hNw, hZU, hZS, hTq, hNc⟩, hEx, hRc, hRs⟩ := cx
  match st, h with
  | .int y :: .int x :: st, h =>
    have h : (bif decide (x < y) then kont (t, lo, st) hs else kont (pc' + 3, lo, st) hs) = some (o, hs') := h
    by_cases q : x < y
    · rw [decide_eq_true q] at h
      intro h1 h2
      obtain ⟨g1, g2, g3⟩ := hk _ _ h h1 h2
      refine ⟨g1, g2, fun al H locs ls w wl wv hl => ?_⟩
      refine lv_icmp_lt hx hb d ht (fun q' => ?_) (fun q' => ?_)
      · exact g3 al H locs ls w wl (ev_tl (ev_tl wv)) hl
      · exact absurd q q'
    · rw [decide_eq_false q] at h
      intro h1 h2
      obtain ⟨g1, g2, g3⟩ := hk _ _ h h1 h2
      refine ⟨g1, g2, fun al H locs ls w wl wv hl => ?_⟩
      refine lv_icmp_lt hx hb d ht (fun q' => ?_) (fun q' => ?_)
      · exact absurd q' q
      · exact g3 al H locs ls w wl (ev_tl (ev_tl wv)) hl
theorem ok_icmp_ge {off : Int} {t : Nat} (d : decode cc pc = .ok (.if_icmp .ge off, 3)) (ht : (pc : Int) + off = (t : Int)) : ev_Ok cc nL hh own Ts Tn Tq cl isI CO pc (a_ic t (fun x y => decide (y ≤ x))) := by
  intro p l e R s m args below meth c Q D cs ox A al0 k0 n0 call kont f hs o hs' cx hI hC hR hT hpc h hk
  obtain ⟨pc', lo, st⟩ := f
  cases hpc
  obtain ⟨⟨hx, hb, hml, hown, hts⟩, ⟨hKK, hA, hNw, hZU, hZS, hTq, hNc⟩, hEx, hRc, hRs⟩ := cx
  match st, h with
  | .int y :: .int x :: st, h =>
    have h : (bif decide (y ≤ x) then kont (t, lo, st) hs else kont (pc' + 3, lo, st) hs) = some (o, hs') := h
    by_cases q : y ≤ x
    · rw [decide_eq_true q] at h
      intro h1 h2
      obtain ⟨g1, g2, g3⟩ := hk _ _ h h1 h2
      refine ⟨g1, g2, fun al H locs ls w wl wv hl => ?_⟩
      refine lv_icmp_ge hx hb d ht (fun q' => ?_) (fun q' => ?_)
      · exact g3 al H locs ls w wl (ev_tl (ev_tl wv)) hl
      · exact absurd q q'
    · rw [decide_eq_false q] at h
      intro h1 h2
      obtain ⟨g1, g2, g3⟩ := hk _ _ h h1 h2
      refine ⟨g1, g2, fun al H locs ls w wl wv hl => ?_⟩
      refine lv_icmp_ge hx hb d ht (fun q' => ?_) (fun q' => ?_)
      · exact absurd q' q
      · exact g3 al H locs ls w wl (ev_tl (ev_tl wv)) hl
theorem ok_icmp_gt {off : Int} {t : Nat} (d : decode cc pc = .ok (.if_icmp .gt off, 3)) (ht : (pc : Int) + off = (t : Int)) : ev_Ok cc nL hh own Ts Tn Tq cl isI CO pc (a_ic t (fun x y => decide (y < x))) := by
  intro p l e R s m args below meth c Q D cs ox A al0 k0 n0 call kont f hs o hs' cx hI hC hR hT hpc h hk
  obtain ⟨pc', lo, st⟩ := f
  cases hpc
  obtain ⟨⟨hx, hb, hml, hown, hts⟩, ⟨hKK, hA, hNw, hZU, hZS, hTq, hNc⟩, hEx, hRc, hRs⟩ := cx
  match st, h with
  | .int y :: .int x :: st, h =>
    have h : (bif decide (y < x) then kont (t, lo, st) hs else kont (pc' + 3, lo, st) hs) = some (o, hs') := h
    by_cases q : y < x
    · rw [decide_eq_true q] at h
      intro h1 h2
      obtain ⟨g1, g2, g3⟩ := hk _ _ h h1 h2
      refine ⟨g1, g2, fun al H locs ls w wl wv hl => ?_⟩
      refine lv_icmp_gt hx hb d ht (fun q' => ?_) (fun q' => ?_)
      · exact g3 al H locs ls w wl (ev_tl (ev_tl wv)) hl
      · exact absurd q q'
    · rw [decide_eq_false q] at h
      intro h1 h2
      obtain ⟨g1, g2, g3⟩ := hk _ _ h h1 h2
      refine ⟨g1, g2, fun al H locs ls w wl wv hl => ?_⟩
      refine lv_icmp_gt hx hb d ht (fun q' => ?_) (fun q' => ?_)
      · exact absurd q' q
      · exact g3 al H locs ls w wl (ev_tl (ev_tl wv)) hl
theorem ok_icmp_le {off : Int} {t : Nat} (d : decode cc pc = .ok (.if_icmp .le off, 3)) (ht : (pc : Int) + off = (t : Int)) : ev_Ok cc nL hh own Ts Tn Tq cl isI CO pc (a_ic t (fun x y => decide (x ≤ y))) := by
  intro p l e R s m args below meth c Q D cs ox A al0 k0 n0 call kont f hs o hs' cx hI hC hR hT hpc h hk
  obtain ⟨pc', lo, st⟩ := f
  cases hpc
  obtain ⟨⟨hx, hb, hml, hown, hts⟩, ⟨hKK, hA, hNw, hZU, hZS, hTq, hNc⟩, hEx, hRc, hRs⟩ := cx
  match st, h with
  | .int y :: .int x :: st, h =>
    have h : (bif decide (x ≤ y) then kont (t, lo, st) hs else kont (pc' + 3, lo, st) hs) = some (o, hs') := h
    by_cases q : x ≤ y
    · rw [decide_eq_true q] at h
      intro h1 h2
      obtain ⟨g1, g2, g3⟩ := hk _ _ h h1 h2
      refine ⟨g1, g2, fun al H locs ls w wl wv hl => ?_⟩
      refine lv_icmp_le hx hb d ht (fun q' => ?_) (fun q' => ?_)
      · exact g3 al H locs ls w wl (ev_tl (ev_tl wv)) hl
      · exact absurd q q'
    · rw [decide_eq_false q] at h
      intro h1 h2
      obtain ⟨g1, g2, g3⟩ := hk _ _ h h1 h2
      refine ⟨g1, g2, fun al H locs ls w wl wv hl => ?_⟩
      refine lv_icmp_le hx hb d ht (fun q' => ?_) (fun q' => ?_)
      · exact absurd q' q
      · exact g3 al H locs ls w wl (ev_tl (ev_tl wv)) hl
theorem ok_iload_n {k : Fin 4} {i : Nat} (d : decode cc pc = .ok (.iload_n k, 1)) (hi : (k : Nat) = i) : ev_Ok cc nL hh own Ts Tn Tq cl isI CO pc (a_iload 1 i) := by
  intro p l e R s m args below meth c Q D cs ox A al0 k0 n0 call kont f hs o hs' cx hI hC hR hT hpc h hk
  obtain ⟨pc', lo, st⟩ := f
  cases hpc
  obtain ⟨⟨hx, hb, hml, hown, hts⟩, ⟨hKK, hA, hNw, hZU, hZS, hTq, hNc⟩, hEx, hRc, hRs⟩ := cx
  have h : a_iload 1 i call kont (pc', lo, st) hs = some (o, hs') := h
  unfold a_iload at h
  dsimp only at h
  cases hq : ev_look lo i with
  | none => rw [hq] at h; cases h
  | some v =>
    rw [hq] at h
    cases v with
    | int x =>
      intro h1 h2
      obtain ⟨g1, g2, g3⟩ := hk _ _ h h1 h2
      refine ⟨g1, g2, fun al H locs ls w wl wv hl => ?_⟩
      exact lv_iload_n hx hb d hi (ev_local hl hq) (g3 al H locs ls w wl (ev_allc (ev_look_ok wl hq) wv) hl)
    | _ => cases h
theorem ok_iload {i : Nat} (d : decode cc pc = .ok (.iload i, 2)) : ev_Ok cc nL hh own Ts Tn Tq cl isI CO pc (a_iload 2 i) := by
  intro p l e R s m args below meth c Q D cs ox A al0 k0 n0 call kont f hs o hs' cx hI hC hR hT hpc h hk
  obtain ⟨pc', lo, st⟩ := f
  cases hpc
  obtain ⟨⟨hx, hb, hml, hown, hts⟩, ⟨hKK, hA, hNw, hZU, hZS, hTq, hNc⟩, hEx, hRc, hRs⟩ := cx
  have h : a_iload 2 i call kont (pc', lo, st) hs = some (o, hs') := h
  unfold a_iload at h
  dsimp only at h
  cases hq : ev_look lo i with
  | none => rw [hq] at h; cases h
  | some v =>
    rw [hq] at h
    cases v with
    | int x =>
      intro h1 h2
      obtain ⟨g1, g2, g3⟩ := hk _ _ h h1 h2
      refine ⟨g1, g2, fun al H locs ls w wl wv hl => ?_⟩
      exact lv_iload hx hb d (ev_local hl hq) (g3 al H locs ls w wl (ev_allc (ev_look_ok wl hq) wv) hl)
    | _ => cases h
theorem ok_lload_n {k : Fin 4} {i : Nat} (d : decode cc pc = .ok (.lload_n k, 1)) (hi : (k : Nat) = i) : ev_Ok cc nL hh own Ts Tn Tq cl isI CO pc (a_lload 1 i) := by
  intro p l e R s m args below meth c Q D cs ox A al0 k0 n0 call kont f hs o hs' cx hI hC hR hT hpc h hk
  obtain ⟨pc', lo, st⟩ := f
  cases hpc
  obtain ⟨⟨hx, hb, hml, hown, hts⟩, ⟨hKK, hA, hNw, hZU, hZS, hTq, hNc⟩, hEx, hRc, hRs⟩ := cx
  have h : a_lload 1 i call kont (pc', lo, st) hs = some (o, hs') := h
  unfold a_lload at h
  dsimp only at h
  cases hq : ev_look lo i with
  | none => rw [hq] at h; cases h
  | some v =>
    rw [hq] at h
    cases v with
    | long x =>
      intro h1 h2
      obtain ⟨g1, g2, g3⟩ := hk _ _ h h1 h2
      refine ⟨g1, g2, fun al H locs ls w wl wv hl => ?_⟩
      exact lv_lload_n hx hb d hi (ev_local hl hq) (g3 al H locs ls w wl (ev_allc (ev_look_ok wl hq) wv) hl)
    | _ => cases h
theorem ok_lload {i : Nat} (d : decode cc pc = .ok (.lload i, 2)) : ev_Ok cc nL hh own Ts Tn Tq cl isI CO pc (a_lload 2 i) := by
  intro p l e R s m args below meth c Q D cs ox A al0 k0 n0 call kont f hs o hs' cx hI hC hR hT hpc h hk
  obtain ⟨pc', lo, st⟩ := f
  cases hpc
  obtain ⟨⟨hx, hb, hml, hown, hts⟩, ⟨hKK, hA, hNw, hZU, hZS, hTq, hNc⟩, hEx, hRc, hRs⟩ := cx
  have h : a_lload 2 i call kont (pc', lo, st) hs = some (o, hs') := h
  unfold a_lload at h
  dsimp only at h
  cases hq : ev_look lo i with
  | none => rw [hq] at h; cases h
  | some v =>
    rw [hq] at h
    cases v with
    | long x =>
      intro h1 h2
      obtain ⟨g1, g2, g3⟩ := hk _ _ h h1 h2
      refine ⟨g1, g2, fun al H locs ls w wl wv hl => ?_⟩
      exact lv_lload hx hb d (ev_local hl hq) (g3 al H locs ls w wl (ev_allc (ev_look_ok wl hq) wv) hl)
    | _ => cases h
theorem ok_dload_n {k : Fin 4} {i : Nat} (d : decode cc pc = .ok (.dload_n k, 1)) (hi : (k : Nat) = i) : ev_Ok cc nL hh own Ts Tn Tq cl isI CO pc (a_dload 1 i) := by
  intro p l e R s m args below meth c Q D cs ox A al0 k0 n0 call kont f hs o hs' cx hI hC hR hT hpc h hk
  obtain ⟨pc', lo, st⟩ := f
  cases hpc
  obtain ⟨⟨hx, hb, hml, hown, hts⟩, ⟨hKK, hA, hNw, hZU, hZS, hTq, hNc⟩, hEx, hRc, hRs⟩ := cx
  have h : a_dload 1 i call kont (pc', lo, st) hs = some (o, hs') := h
  unfold a_dload at h
  dsimp only at h
  cases hq : ev_look lo i with
  | none => rw [hq] at h; cases h
  | some v =>
    rw [hq] at h
    cases v with
    | double x =>
      intro h1 h2
      obtain ⟨g1, g2, g3⟩ := hk _ _ h h1 h2
      refine ⟨g1, g2, fun al H locs ls w wl wv hl => ?_⟩
      exact lv_dload_n hx hb d hi (ev_local hl hq) (g3 al H locs ls w wl (ev_allc (ev_look_ok wl hq) wv) hl)
    | _ => cases h
theorem ok_dload {i : Nat} (d : decode cc pc = .ok (.dload i, 2)) : ev_Ok cc nL hh own Ts Tn Tq cl isI CO pc (a_dload 2 i) := by
  intro p l e R s m args below meth c Q D cs ox A al0 k0 n0 call kont f hs o hs' cx hI hC hR hT hpc h hk
  obtain ⟨pc', lo, st⟩ := f
  cases hpc
  obtain ⟨⟨hx, hb, hml, hown, hts⟩, ⟨hKK, hA, hNw, hZU, hZS, hTq, hNc⟩, hEx, hRc, hRs⟩ := cx
  have h : a_dload 2 i call kont (pc', lo, st) hs = some (o, hs') := h
  unfold a_dload at h
  dsimp only at h
  cases hq : ev_look lo i with
  | none => rw [hq] at h; cases h
  | some v =>
    rw [hq] at h
    cases v with
    | double x =>
      intro h1 h2
      obtain ⟨g1, g2, g3⟩ := hk _ _ h h1 h2
      refine ⟨g1, g2, fun al H locs ls w wl wv hl => ?_⟩
      exact lv_dload hx hb d (ev_local hl hq) (g3 al H locs ls w wl (ev_allc (ev_look_ok wl hq) wv) hl)
    | _ => cases h
theorem ok_aload_n {k : Fin 4} {i : Nat} (d : decode cc pc = .ok (.aload_n k, 1)) (hi : (k : Nat) = i) : ev_Ok cc nL hh own Ts Tn Tq cl isI CO pc (a_aload 1 i) := by
  intro p l e R s m args below meth c Q D cs ox A al0 k0 n0 call kont f hs o hs' cx hI hC hR hT hpc h hk
  obtain ⟨pc', lo, st⟩ := f
  cases hpc
  obtain ⟨⟨hx, hb, hml, hown, hts⟩, ⟨hKK, hA, hNw, hZU, hZS, hTq, hNc⟩, hEx, hRc, hRs⟩ := cx
  have h : a_aload 1 i call kont (pc', lo, st) hs = some (o, hs') := h
  unfold a_aload at h
  dsimp only at h
  cases hq : ev_look lo i with
  | none => rw [hq] at h; cases h
  | some v =>
    rw [hq] at h
    cases v with
    | ref x =>
      intro h1 h2
      obtain ⟨g1, g2, g3⟩ := hk _ _ h h1 h2
      refine ⟨g1, g2, fun al H locs ls w wl wv hl => ?_⟩
      exact lv_aload_n hx hb d hi (ev_local hl hq) (g3 al H locs ls w wl (ev_allc (ev_look_ok wl hq) wv) hl)
    | float x =>
      intro h1 h2
      obtain ⟨g1, g2, g3⟩ := hk _ _ h h1 h2
      refine ⟨g1, g2, fun al H locs ls w wl wv hl => ?_⟩
      exact lv_aload_n hx hb d hi (ev_local hl hq) (g3 al H locs ls w wl (ev_allc (ev_look_ok wl hq) wv) hl)
    | _ => cases h
theorem ok_aload {i : Nat} (d : decode cc pc = .ok (.aload i, 2)) : ev_Ok cc nL hh own Ts Tn Tq cl isI CO pc (a_aload 2 i) := by
  intro p l e R s m args below meth c Q D cs ox A al0 k0 n0 call kont f hs o hs' cx hI hC hR hT hpc h hk
  obtain ⟨pc', lo, st⟩ := f
  cases hpc
  obtain ⟨⟨hx, hb, hml, hown, hts⟩, ⟨hKK, hA, hNw, hZU, hZS, hTq, hNc⟩, hEx, hRc, hRs⟩ := cx
  have h : a_aload 2 i call kont (pc', lo, st) hs = some (o, hs') := h
  unfold a_aload at h
  dsimp only at h
  cases hq : ev_look lo i with
  | none => rw [hq] at h; cases h
  | some v =>
    rw [hq] at h
    cases v with
    | ref x =>
      intro h1 h2
      obtain ⟨g1, g2, g3⟩ := hk _ _ h h1 h2
      refine ⟨g1, g2, fun al H locs ls w wl wv hl => ?_⟩
      exact lv_aload hx hb d (ev_local hl hq) (g3 al H locs ls w wl (ev_allc (ev_look_ok wl hq) wv) hl)
    | float x =>
      intro h1 h2
      obtain ⟨g1, g2, g3⟩ := hk _ _ h h1 h2
      refine ⟨g1, g2, fun al H locs ls w wl wv hl => ?_⟩
      exact lv_aload hx hb d (ev_local hl hq) (g3 al H locs ls w wl (ev_allc (ev_look_ok wl hq) wv) hl)
    | _ => cases h
theorem ok_istore_n {k : Fin 4} {i : Nat} (d : decode cc pc = .ok (.istore_n k, 1)) (hi : (k : Nat) = i) : ev_Ok cc nL hh own Ts Tn Tq cl isI CO pc (a_istore nL 1 i) := by
  intro p l e R s m args below meth c Q D cs ox A al0 k0 n0 call kont f hs o hs' cx hI hC hR hT hpc h hk
  obtain ⟨pc', lo, st⟩ := f
  cases hpc
  obtain ⟨⟨hx, hb, hml, hown, hts⟩, ⟨hKK, hA, hNw, hZU, hZS, hTq, hNc⟩, hEx, hRc, hRs⟩ := cx
  match st, h with
  | .int x :: st, h =>
    have h : (if i < nL then kont (pc' + 1, ev_st1 lo i (.int x), st) hs else none) = some (o, hs') := h
    by_cases q : i < nL
    · rw [if_pos q] at h
      intro h1 h2
      obtain ⟨g1, g2, g3⟩ := hk _ _ h h1 h2
      refine ⟨g1, g2, fun al H locs ls w wl wv hl => ?_⟩
      exact lv_istore_n (lv' := (ev_st1 lo i (.int x)).map (fun q : Nat × Value => (q.1, ev_rv ox al q.2))) hx hb d hi hl q (ev_st1_eq ox al i lo (.int x)) (fun ls' hl' => g3 al H locs ls' w (ev_st1_ok wl (ev_hd wv)) (ev_tl wv) hl')
    · rw [if_neg q] at h; cases h
theorem ok_istore {i : Nat} (d : decode cc pc = .ok (.istore i, 2)) : ev_Ok cc nL hh own Ts Tn Tq cl isI CO pc (a_istore nL 2 i) := by
  intro p l e R s m args below meth c Q D cs ox A al0 k0 n0 call kont f hs o hs' cx hI hC hR hT hpc h hk
  obtain ⟨pc', lo, st⟩ := f
  cases hpc
  obtain ⟨⟨hx, hb, hml, hown, hts⟩, ⟨hKK, hA, hNw, hZU, hZS, hTq, hNc⟩, hEx, hRc, hRs⟩ := cx
  match st, h with
  | .int x :: st, h =>
    have h : (if i < nL then kont (pc' + 2, ev_st1 lo i (.int x), st) hs else none) = some (o, hs') := h
    by_cases q : i < nL
    · rw [if_pos q] at h
      intro h1 h2
      obtain ⟨g1, g2, g3⟩ := hk _ _ h h1 h2
      refine ⟨g1, g2, fun al H locs ls w wl wv hl => ?_⟩
      exact lv_istore (lv' := (ev_st1 lo i (.int x)).map (fun q : Nat × Value => (q.1, ev_rv ox al q.2))) hx hb d hl q (ev_st1_eq ox al i lo (.int x)) (fun ls' hl' => g3 al H locs ls' w (ev_st1_ok wl (ev_hd wv)) (ev_tl wv) hl')
    · rw [if_neg q] at h; cases h
theorem ok_lstore_n {k : Fin 4} {i : Nat} (d : decode cc pc = .ok (.lstore_n k, 1)) (hi : (k : Nat) = i) : ev_Ok cc nL hh own Ts Tn Tq cl isI CO pc (a_lstore nL 1 i) := by
  intro p l e R s m args below meth c Q D cs ox A al0 k0 n0 call kont f hs o hs' cx hI hC hR hT hpc h hk
  obtain ⟨pc', lo, st⟩ := f
  cases hpc
  obtain ⟨⟨hx, hb, hml, hown, hts⟩, ⟨hKK, hA, hNw, hZU, hZS, hTq, hNc⟩, hEx, hRc, hRs⟩ := cx
  match st, h with
  | .long x :: st, h =>
    have h : (if i + 1 < nL then kont (pc' + 1, ev_st2 lo i (.long x), st) hs else none) = some (o, hs') := h
    by_cases q : i + 1 < nL
    · rw [if_pos q] at h
      intro h1 h2
      obtain ⟨g1, g2, g3⟩ := hk _ _ h h1 h2
      refine ⟨g1, g2, fun al H locs ls w wl wv hl => ?_⟩
      exact lv_lstore_n (lv' := (ev_st2 lo i (.long x)).map (fun q : Nat × Value => (q.1, ev_rv ox al q.2))) hx hb d hi hl q (ev_st2_eq ox al i lo (.long x)) (fun ls' hl' => g3 al H locs ls' w (ev_st2_ok wl (ev_hd wv)) (ev_tl wv) hl')
    · rw [if_neg q] at h; cases h
theorem ok_lstore {i : Nat} (d : decode cc pc = .ok (.lstore i, 2)) : ev_Ok cc nL hh own Ts Tn Tq cl isI CO pc (a_lstore nL 2 i) := by
  intro p l e R s m args below meth c Q D cs ox A al0 k0 n0 call kont f hs o hs' cx hI hC hR hT hpc h hk
  obtain ⟨pc', lo, st⟩ := f
  cases hpc
  obtain ⟨⟨hx, hb, hml, hown, hts⟩, ⟨hKK, hA, hNw, hZU, hZS, hTq, hNc⟩, hEx, hRc, hRs⟩ := cx
  match st, h with
  | .long x :: st, h =>
    have h : (if i + 1 < nL then kont (pc' + 2, ev_st2 lo i (.long x), st) hs else none) = some (o, hs') := h
    by_cases q : i + 1 < nL
    · rw [if_pos q] at h
      intro h1 h2
      obtain ⟨g1, g2, g3⟩ := hk _ _ h h1 h2
      refine ⟨g1, g2, fun al H locs ls w wl wv hl => ?_⟩
      exact lv_lstore (lv' := (ev_st2 lo i (.long x)).map (fun q : Nat × Value => (q.1, ev_rv ox al q.2))) hx hb d hl q (ev_st2_eq ox al i lo (.long x)) (fun ls' hl' => g3 al H locs ls' w (ev_st2_ok wl (ev_hd wv)) (ev_tl wv) hl')
    · rw [if_neg q] at h; cases h
theorem ok_dstore_n {k : Fin 4} {i : Nat} (d : decode cc pc = .ok (.dstore_n k, 1)) (hi : (k : Nat) = i) : ev_Ok cc nL hh own Ts Tn Tq cl isI CO pc (a_dstore nL 1 i) := by
  intro p l e R s m args below meth c Q D cs ox A al0 k0 n0 call kont f hs o hs' cx hI hC hR hT hpc h hk
  obtain ⟨pc', lo, st⟩ := f
  cases hpc
  obtain ⟨⟨hx, hb, hml, hown, hts⟩, ⟨hKK, hA, hNw, hZU, hZS, hTq, hNc⟩, hEx, hRc, hRs⟩ := cx
  match st, h with
  | .double x :: st, h =>
    have h : (if i + 1 < nL then kont (pc' + 1, ev_st2 lo i (.double x), st) hs else none) = some (o, hs') := h
    by_cases q : i + 1 < nL
    · rw [if_pos q] at h
      intro h1 h2
      obtain ⟨g1, g2, g3⟩ := hk _ _ h h1 h2
      refine ⟨g1, g2, fun al H locs ls w wl wv hl => ?_⟩
      exact lv_dstore_n (lv' := (ev_st2 lo i (.double x)).map (fun q : Nat × Value => (q.1, ev_rv ox al q.2))) hx hb d hi hl q (ev_st2_eq ox al i lo (.double x)) (fun ls' hl' => g3 al H locs ls' w (ev_st2_ok wl (ev_hd wv)) (ev_tl wv) hl')
    · rw [if_neg q] at h; cases h
theorem ok_dstore {i : Nat} (d : decode cc pc = .ok (.dstore i, 2)) : ev_Ok cc nL hh own Ts Tn Tq cl isI CO pc (a_dstore nL 2 i) := by
  intro p l e R s m args below meth c Q D cs ox A al0 k0 n0 call kont f hs o hs' cx hI hC hR hT hpc h hk
  obtain ⟨pc', lo, st⟩ := f
  cases hpc
  obtain ⟨⟨hx, hb, hml, hown, hts⟩, ⟨hKK, hA, hNw, hZU, hZS, hTq, hNc⟩, hEx, hRc, hRs⟩ := cx
  match st, h with
  | .double x :: st, h =>
    have h : (if i + 1 < nL then kont (pc' + 2, ev_st2 lo i (.double x), st) hs else none) = some (o, hs') := h
    by_cases q : i + 1 < nL
    · rw [if_pos q] at h
      intro h1 h2
      obtain ⟨g1, g2, g3⟩ := hk _ _ h h1 h2
      refine ⟨g1, g2, fun al H locs ls w wl wv hl => ?_⟩
      exact lv_dstore (lv' := (ev_st2 lo i (.double x)).map (fun q : Nat × Value => (q.1, ev_rv ox al q.2))) hx hb d hl q (ev_st2_eq ox al i lo (.double x)) (fun ls' hl' => g3 al H locs ls' w (ev_st2_ok wl (ev_hd wv)) (ev_tl wv) hl')
    · rw [if_neg q] at h; cases h
theorem ok_astore_n {k : Fin 4} {i : Nat} (d : decode cc pc = .ok (.astore_n k, 1)) (hi : (k : Nat) = i) : ev_Ok cc nL hh own Ts Tn Tq cl isI CO pc (a_astore nL 1 i) := by
  intro p l e R s m args below meth c Q D cs ox A al0 k0 n0 call kont f hs o hs' cx hI hC hR hT hpc h hk
  obtain ⟨pc', lo, st⟩ := f
  cases hpc
  obtain ⟨⟨hx, hb, hml, hown, hts⟩, ⟨hKK, hA, hNw, hZU, hZS, hTq, hNc⟩, hEx, hRc, hRs⟩ := cx
  match st, h with
  | .ref x :: st, h =>
    have h : (if i < nL then kont (pc' + 1, ev_st1 lo i (.ref x), st) hs else none) = some (o, hs') := h
    by_cases q : i < nL
    · rw [if_pos q] at h
      intro h1 h2
      obtain ⟨g1, g2, g3⟩ := hk _ _ h h1 h2
      refine ⟨g1, g2, fun al H locs ls w wl wv hl => ?_⟩
      exact lv_astore_n (lv' := (ev_st1 lo i (.ref x)).map (fun q : Nat × Value => (q.1, ev_rv ox al q.2))) hx hb d hi hl q (ev_st1_eq ox al i lo (.ref x)) (fun ls' hl' => g3 al H locs ls' w (ev_st1_ok wl (ev_hd wv)) (ev_tl wv) hl')
    · rw [if_neg q] at h; cases h
  | .float x :: st, h =>
    have h : (if i < nL then kont (pc' + 1, ev_st1 lo i (.float x), st) hs else none) = some (o, hs') := h
    by_cases q : i < nL
    · rw [if_pos q] at h
      intro h1 h2
      obtain ⟨g1, g2, g3⟩ := hk _ _ h h1 h2
      refine ⟨g1, g2, fun al H locs ls w wl wv hl => ?_⟩
      exact lv_astore_n (lv' := (ev_st1 lo i (.float x)).map (fun q : Nat × Value => (q.1, ev_rv ox al q.2))) hx hb d hi hl q (ev_st1_eq ox al i lo (.float x)) (fun ls' hl' => g3 al H locs ls' w (ev_st1_ok wl (ev_hd wv)) (ev_tl wv) hl')
    · rw [if_neg q] at h; cases h
theorem ok_astore {i : Nat} (d : decode cc pc = .ok (.astore i, 2)) : ev_Ok cc nL hh own Ts Tn Tq cl isI CO pc (a_astore nL 2 i) := by
  intro p l e R s m args below meth c Q D cs ox A al0 k0 n0 call kont f hs o hs' cx hI hC hR hT hpc h hk
  obtain ⟨pc', lo, st⟩ := f
  cases hpc
  obtain ⟨⟨hx, hb, hml, hown, hts⟩, ⟨hKK, hA, hNw, hZU, hZS, hTq, hNc⟩, hEx, hRc, hRs⟩ := cx
  match st, h with
  | .ref x :: st, h =>
    have h : (if i < nL then kont (pc' + 2, ev_st1 lo i (.ref x), st) hs else none) = some (o, hs') := h
    by_cases q : i < nL
    · rw [if_pos q] at h
      intro h1 h2
      obtain ⟨g1, g2, g3⟩ := hk _ _ h h1 h2
      refine ⟨g1, g2, fun al H locs ls w wl wv hl => ?_⟩
      exact lv_astore (lv' := (ev_st1 lo i (.ref x)).map (fun q : Nat × Value => (q.1, ev_rv ox al q.2))) hx hb d hl q (ev_st1_eq ox al i lo (.ref x)) (fun ls' hl' => g3 al H locs ls' w (ev_st1_ok wl (ev_hd wv)) (ev_tl wv) hl')
    · rw [if_neg q] at h; cases h
  | .float x :: st, h =>
    have h : (if i < nL then kont (pc' + 2, ev_st1 lo i (.float x), st) hs else none) = some (o, hs') := h
    by_cases q : i < nL
    · rw [if_pos q] at h
      intro h1 h2
      obtain ⟨g1, g2, g3⟩ := hk _ _ h h1 h2
      refine ⟨g1, g2, fun al H locs ls w wl wv hl => ?_⟩
      exact lv_astore (lv' := (ev_st1 lo i (.float x)).map (fun q : Nat × Value => (q.1, ev_rv ox al q.2))) hx hb d hl q (ev_st1_eq ox al i lo (.float x)) (fun ls' hl' => g3 al H locs ls' w (ev_st1_ok wl (ev_hd wv)) (ev_tl wv) hl')
    · rw [if_neg q] at h; cases h
theorem ok_iinc {i : Nat} {n : Int} {dd : Int32} (d : decode cc pc = .ok (.iinc i n, 3)) (hd : Int32.ofInt n = dd) : ev_Ok cc nL hh own Ts Tn Tq cl isI CO pc (a_iinc nL i dd) := by
  intro p l e R s m args below meth c Q D cs ox A al0 k0 n0 call kont f hs o hs' cx hI hC hR hT hpc h hk
  obtain ⟨pc', lo, st⟩ := f
  cases hpc
  obtain ⟨⟨hx, hb, hml, hown, hts⟩, ⟨hKK, hA, hNw, hZU, hZS, hTq, hNc⟩, hEx, hRc, hRs⟩ := cx
  have h : a_iinc nL i dd call kont (pc', lo, st) hs = some (o, hs') := h
  unfold a_iinc at h
  dsimp only at h
  cases hq : ev_look lo i with
  | none => rw [hq] at h; cases h
  | some v =>
    rw [hq] at h
    cases v with
    | int x =>
      dsimp only at h
      by_cases q : i < nL
      · rw [if_pos q] at h
        intro h1 h2
        obtain ⟨g1, g2, g3⟩ := hk _ _ h h1 h2
        refine ⟨g1, g2, fun al H locs ls w wl wv hl => ?_⟩
        have hm : (i, Value.int x) ∈ lo.map (fun q : Nat × Value => (q.1, ev_rv ox al q.2)) := List.mem_map.mpr ⟨(i, .int x), ev_look_mem lo i _ hq, rfl⟩
        obtain ⟨k, hk2⟩ := List.getElem?_of_mem hm
        exact lv_iinc (v := x + dd) (lv' := (ev_st1 lo i (.int (x + dd))).map (fun q : Nat × Value => (q.1, ev_rv ox al q.2))) hx hb d hl (k := k) hk2 (by rw [hd]) q (ev_st1_eq ox al i lo (.int (x + dd))) (fun ls' hl' => g3 al H locs ls' w (ev_st1_ok wl trivial) wv hl')
      · rw [if_neg q] at h; cases h
    | _ => cases h
theorem ok_dup (d : decode cc pc = .ok (.dup, 1)) : ev_Ok cc nL hh own Ts Tn Tq cl isI CO pc a_dup := by
  intro p l e R s m args below meth c Q D cs ox A al0 k0 n0 call kont f hs o hs' cx hI hC hR hT hpc h hk
  obtain ⟨pc', lo, st⟩ := f
  cases hpc
  obtain ⟨⟨hx, hb, hml, hown, hts⟩, ⟨hKK, hA, hNw, hZU, hZS, hTq, hNc⟩, hEx, hRc, hRs⟩ := cx
  match st, h with
  | v :: st, h =>
    have h : (if v.category = 1 then kont (pc' + 1, lo, v :: v :: st) hs else none) = some (o, hs') := h
    by_cases q : v.category = 1
    · rw [if_pos q] at h
      intro h1 h2
      obtain ⟨g1, g2, g3⟩ := hk _ _ h h1 h2
      refine ⟨g1, g2, fun al H locs ls w wl wv hl => ?_⟩
      exact lv_dup hx hb d ((ev_rv_cat _ _ _).trans q) (g3 al H locs ls w wl (ev_allc (ev_hd wv) wv) hl)
    · rw [if_neg q] at h; cases h
theorem ok_pop (d : decode cc pc = .ok (.pop, 1)) : ev_Ok cc nL hh own Ts Tn Tq cl isI CO pc a_pop := by
  intro p l e R s m args below meth c Q D cs ox A al0 k0 n0 call kont f hs o hs' cx hI hC hR hT hpc h hk
  obtain ⟨pc', lo, st⟩ := f
  cases hpc
  obtain ⟨⟨hx, hb, hml, hown, hts⟩, ⟨hKK, hA, hNw, hZU, hZS, hTq, hNc⟩, hEx, hRc, hRs⟩ := cx
  match st, h with
  | v :: st, h =>
    have h : (if v.category = 1 then kont (pc' + 1, lo, st) hs else none) = some (o, hs') := h
    by_cases q : v.category = 1
    · rw [if_pos q] at h
      intro h1 h2
      obtain ⟨g1, g2, g3⟩ := hk _ _ h h1 h2
      refine ⟨g1, g2, fun al H locs ls w wl wv hl => ?_⟩
      exact lv_pop hx hb d ((ev_rv_cat ox al v).trans q) (g3 al H locs ls w wl (ev_tl wv) hl)
    · rw [if_neg q] at h; cases h
theorem ok_dup_x1 (d : decode cc pc = .ok (.dup_x1, 1)) : ev_Ok cc nL hh own Ts Tn Tq cl isI CO pc a_dupx1 := by
  intro p l e R s m args below meth c Q D cs ox A al0 k0 n0 call kont f hs o hs' cx hI hC hR hT hpc h hk
  obtain ⟨pc', lo, st⟩ := f
  cases hpc
  obtain ⟨⟨hx, hb, hml, hown, hts⟩, ⟨hKK, hA, hNw, hZU, hZS, hTq, hNc⟩, hEx, hRc, hRs⟩ := cx
  match st, h with
  | v :: u :: st, h =>
    have h : (if v.category = 1 ∧ u.category = 1 then kont (pc' + 1, lo, v :: u :: v :: st) hs else none) = some (o, hs') := h
    by_cases q : v.category = 1 ∧ u.category = 1
    · rw [if_pos q] at h
      intro h1 h2
      obtain ⟨g1, g2, g3⟩ := hk _ _ h h1 h2
      refine ⟨g1, g2, fun al H locs ls w wl wv hl => ?_⟩
      exact lv_dup_x1 hx hb d ((ev_rv_cat _ _ _).trans q.1) ((ev_rv_cat _ _ _).trans q.2) (g3 al H locs ls w wl (ev_allc (ev_hd wv) (ev_allc (ev_hd (ev_tl wv)) (ev_allc (ev_hd wv) (ev_tl (ev_tl wv))))) hl)
    · rw [if_neg q] at h; cases h
theorem ok_dup_x2 (d : decode cc pc = .ok (.dup_x2, 1)) : ev_Ok cc nL hh own Ts Tn Tq cl isI CO pc a_dupx2 := by
  intro p l e R s m args below meth c Q D cs ox A al0 k0 n0 call kont f hs o hs' cx hI hC hR hT hpc h hk
  obtain ⟨pc', lo, st⟩ := f
  cases hpc
  obtain ⟨⟨hx, hb, hml, hown, hts⟩, ⟨hKK, hA, hNw, hZU, hZS, hTq, hNc⟩, hEx, hRc, hRs⟩ := cx
  match st, h with
  | v :: u :: t :: st, h =>
    have h : (if v.category = 1 ∧ u.category = 1 ∧ t.category = 1 then kont (pc' + 1, lo, v :: u :: t :: v :: st) hs else none) = some (o, hs') := h
    by_cases q : v.category = 1 ∧ u.category = 1 ∧ t.category = 1
    · rw [if_pos q] at h
      intro h1 h2
      obtain ⟨g1, g2, g3⟩ := hk _ _ h h1 h2
      refine ⟨g1, g2, fun al H locs ls w wl wv hl => ?_⟩
      exact lv_dup_x2 hx hb d ((ev_rv_cat _ _ _).trans q.1) ((ev_rv_cat _ _ _).trans q.2.1) ((ev_rv_cat _ _ _).trans q.2.2) (g3 al H locs ls w wl (ev_allc (ev_hd wv) (ev_allc (ev_hd (ev_tl wv)) (ev_allc (ev_hd (ev_tl (ev_tl wv))) (ev_allc (ev_hd wv) (ev_tl (ev_tl (ev_tl wv))))))) hl)
    · rw [if_neg q] at h; cases h
theorem ok_dup2 (d : decode cc pc = .ok (.dup2, 1)) : ev_Ok cc nL hh own Ts Tn Tq cl isI CO pc a_dup2 := by
  intro p l e R s m args below meth c Q D cs ox A al0 k0 n0 call kont f hs o hs' cx hI hC hR hT hpc h hk
  obtain ⟨pc', lo, st⟩ := f
  cases hpc
  obtain ⟨⟨hx, hb, hml, hown, hts⟩, ⟨hKK, hA, hNw, hZU, hZS, hTq, hNc⟩, hEx, hRc, hRs⟩ := cx
  match st, h with
  | v :: u :: st, h =>
    have h : (if v.category = 1 ∧ u.category = 1 then kont (pc' + 1, lo, v :: u :: v :: u :: st) hs else none) = some (o, hs') := h
    by_cases q : v.category = 1 ∧ u.category = 1
    · rw [if_pos q] at h
      intro h1 h2
      obtain ⟨g1, g2, g3⟩ := hk _ _ h h1 h2
      refine ⟨g1, g2, fun al H locs ls w wl wv hl => ?_⟩
      exact lv_dup2_11 hx hb d ((ev_rv_cat _ _ _).trans q.1) ((ev_rv_cat _ _ _).trans q.2) (g3 al H locs ls w wl (ev_allc (ev_hd wv) (ev_allc (ev_hd (ev_tl wv)) wv)) hl)
    · rw [if_neg q] at h; cases h
theorem ok_getfield {C : String} {T : u_T} {N index ci kf : Nat} (d : decode cc pc = .ok (.getfield index, 3)) (hc : cl[ci]? = some (C, T, N)) (hin : ∀ w ∈ u_ws C T N, w ∈ Ts) (hkf : kf < N) (hw : Cond.fieldLink own index (T kf).1 (T kf).2.1 (T kf).2.2.1 ∈ Ts) : ev_Ok cc nL hh own Ts Tn Tq cl isI CO pc (a_getf ci kf) := by
  intro p l e R s m args below meth c Q D cs ox A al0 k0 n0 call kont f hs o hs' cx hI hC hR hT hpc h hk
  obtain ⟨pc', lo, st⟩ := f
  cases hpc
  obtain ⟨⟨hx, hb, hml, hown, hts⟩, ⟨hKK, hA, hNw, hZU, hZS, hTq, hNc⟩, hEx, hRc, hRs⟩ := cx
  have h : (a_getf ci kf) call kont (pc', lo, st) hs = some (o, hs') := h
  match st, h with
  | .ref a :: st, h =>
    unfold a_getf at h
    dsimp only at h
    cases hq : hs.1[a]? with
    | none => rw [hq] at h; cases h
    | some e0 =>
      rw [hq] at h
      obtain ⟨t0, fs⟩ := e0
      cases t0 with
      | inl t => cases h
      | inr cx =>
        dsimp only at h
        cases hb2 : Nat.beq cx ci with
        | false => rw [hb2] at h; cases h
        | true =>
          rw [hb2] at h
          cases Nat.eq_of_beq_eq_true hb2
          dsimp only [cond_true] at h
          cases hv : fs[kf]? with
          | none => rw [hv] at h; cases h
          | some v =>
            rw [hv] at h
            intro h1 h2
            obtain ⟨g1, g2, g3⟩ := hk _ _ h h1 h2
            refine ⟨g1, g2, fun al H locs ls w wl wv hl => ?_⟩
            have he := ev_w_get (cs := cs) (ox := ox) w.2.1 hq
            exact va_get hx hb hts hin hown hKK w.2.2.1 a (fs := fs.map (ev_rv ox al)) he hc kf hkf (hts _ hw) (fun x h => h) (v := ev_rv ox al v) (by rw [List.getElem?_map, hv]; rfl) d (g3 al H locs ls w wl (ev_allc (w.2.2.2.2.2 _ (List.mem_of_getElem? hq) v (List.mem_of_getElem? hv)) (ev_tl wv)) hl)
theorem ok_getfieldN {C : String} {T : u_T} {N index ci kf : Nat} (d : decode cc pc = .ok (.getfield index, 3)) (hc : cl[ci]? = some (C, T, N)) (hin : ∀ w ∈ u_ws C T N, w ∈ Ts) (hkf : kf < N) {host : String} (hw : Cond.fieldLinkNest own index (T kf).1 (T kf).2.1 (T kf).2.2.1 host ∈ Tn) : ev_Ok cc nL hh own Ts Tn Tq cl isI CO pc (a_getf ci kf) := by
  intro p l e R s m args below meth c Q D cs ox A al0 k0 n0 call kont f hs o hs' cx hI hC hR hT hpc h hk
  obtain ⟨pc', lo, st⟩ := f
  cases hpc
  obtain ⟨⟨hx, hb, hml, hown, hts⟩, ⟨hKK, hA, hNw, hZU, hZS, hTq, hNc⟩, hEx, hRc, hRs⟩ := cx
  have h : (a_getf ci kf) call kont (pc', lo, st) hs = some (o, hs') := h
  match st, h with
  | .ref a :: st, h =>
    unfold a_getf at h
    dsimp only at h
    cases hq : hs.1[a]? with
    | none => rw [hq] at h; cases h
    | some e0 =>
      rw [hq] at h
      obtain ⟨t0, fs⟩ := e0
      cases t0 with
      | inl t => cases h
      | inr cx =>
        dsimp only at h
        cases hb2 : Nat.beq cx ci with
        | false => rw [hb2] at h; cases h
        | true =>
          rw [hb2] at h
          cases Nat.eq_of_beq_eq_true hb2
          dsimp only [cond_true] at h
          cases hv : fs[kf]? with
          | none => rw [hv] at h; cases h
          | some v =>
            rw [hv] at h
            intro h1 h2
            obtain ⟨g1, g2, g3⟩ := hk _ _ h h1 h2
            refine ⟨g1, g2, fun al H locs ls w wl wv hl => ?_⟩
            have he := ev_w_get (cs := cs) (ox := ox) w.2.1 hq
            exact va_getN hx hb hts hin hown hKK w.2.2.1 a (fs := fs.map (ev_rv ox al)) he hc kf hkf (va_Nw.use rfl (hNw _ hw).2) (fun x h => h) (v := ev_rv ox al v) (by rw [List.getElem?_map, hv]; rfl) d (g3 al H locs ls w wl (ev_allc (w.2.2.2.2.2 _ (List.mem_of_getElem? hq) v (List.mem_of_getElem? hv)) (ev_tl wv)) hl)
theorem ok_putfield {C : String} {T : u_T} {N index ci kf : Nat} (d : decode cc pc = .ok (.putfield index, 3)) (hc : cl[ci]? = some (C, T, N)) (hin : ∀ w ∈ u_ws C T N, w ∈ Ts) (hkf : kf < N) {ty : Nat} {ty0 : Nat → FieldType} (hty : ∀ k, k < N → parseFieldDescriptor (T k).2.2.1 = some (ty0 k)) (hnm : ∀ a, a < N → ∀ b, b < N → a ≠ b → (T a).2.1 ≠ (T b).2.1) (htc : ev_tc (ty0 kf) = ty) (hw : Cond.fieldLink own index (T kf).1 (T kf).2.1 (T kf).2.2.1 ∈ Ts) (hfin : (T kf).2.2.2 = false) : ev_Ok cc nL hh own Ts Tn Tq cl isI CO pc (a_putf ty ci kf) := by
  intro p l e R s m args below meth c Q D cs ox A al0 k0 n0 call kont f hs o hs' cx hI hC hR hT hpc h hk
  obtain ⟨pc', lo, st⟩ := f
  cases hpc
  obtain ⟨⟨hx, hb, hml, hown, hts⟩, ⟨hKK, hA, hNw, hZU, hZS, hTq, hNc⟩, hEx, hRc, hRs⟩ := cx
  have h : (a_putf ty ci kf) call kont (pc', lo, st) hs = some (o, hs') := h
  match st, h with
  | v :: .ref a :: st, h =>
    unfold a_putf at h
    dsimp only at h
    cases hq : hs.1[a]? with
    | none => rw [hq] at h; cases h
    | some e0 =>
      rw [hq] at h
      obtain ⟨t0, fs⟩ := e0
      cases t0 with
      | inl t => cases h
      | inr cx =>
        dsimp only at h
        cases hb2 : (Nat.beq cx ci && (ev_fit ty v && decide (kf < fs.length))) with
        | false => rw [hb2] at h; cases h
        | true =>
          rw [hb2] at h
          simp only [Bool.and_eq_true, decide_eq_true_eq] at hb2
          obtain ⟨q1, q2, q3⟩ := hb2
          cases Nat.eq_of_beq_eq_true q1
          dsimp only [cond_true] at h
          intro h1 h2
          obtain ⟨g1, g2, g3⟩ := hk _ _ h h1 h2
          refine ⟨g1, g2, fun al H locs ls w wl wv hl => ?_⟩
          have he := ev_w_get (cs := cs) (ox := ox) w.2.1 hq
          have hf := ev_fit_spec ox al (ty0 kf) (v := v) (by rw [htc]; exact q2)
          have hset : (ev_w cs ox al hs.1).set a (al.getD a 0, .inr (ci, (fs.map (ev_rv ox al)).set kf (ev_rv ox al v))) = ev_w cs ox al (hs.1.set a (.inr ci, fs.set kf v)) := by
            rw [← ev_w_set w.2.1 a (.inr ci, fs.set kf v)]
            show _ = (ev_w cs ox al hs.1).set a (al.getD a 0, .inr (ci, (fs.set kf v).map (ev_rv ox al)))
            rw [List.map_set]
          refine va_put hx hb hts hin ty0 hty hnm hown hKK w.2.2.1 w.2.2.2.1 w.2.2.2.2.1 a (fs := fs.map (ev_rv ox al)) he hc kf hkf (hts _ hw) (fun x h => h) hfin (hty kf hkf) hf.1 hf.2 (by rw [List.length_map]; exact q3) d (fun H1 locs1 hP1 hD1 hS1 => ?_)
          rw [hset] at hP1 hD1
          exact g3 al H1 locs1 ls ⟨w.1, by rw [List.length_set]; exact w.2.1, hP1, hD1, hS1, ev_wf_set w.2.2.2.2.2 (ev_mem_set (w.2.2.2.2.2 _ (List.mem_of_getElem? hq)) (ev_hd wv))⟩ (by dsimp only; rw [List.length_set]; exact wl) (by dsimp only; rw [List.length_set]; exact ev_tl (ev_tl wv)) hl
theorem ok_putfieldF {C : String} {T : u_T} {N index ci kf : Nat} (d : decode cc pc = .ok (.putfield index, 3)) (hc : cl[ci]? = some (C, T, N)) (hin : ∀ w ∈ u_ws C T N, w ∈ Ts) (hkf : kf < N) {ty : Nat} {ty0 : Nat → FieldType} (hty : ∀ k, k < N → parseFieldDescriptor (T k).2.2.1 = some (ty0 k)) (hnm : ∀ a, a < N → ∀ b, b < N → a ≠ b → (T a).2.1 ≠ (T b).2.1) (htc : ev_tc (ty0 kf) = ty) (hw : Cond.fieldLink own index (T kf).1 (T kf).2.1 (T kf).2.2.1 ∈ Ts) (hfin : (T kf).2.2.2 = true) (hi2 : isI = true) (hdl : (T kf).1 = own) : ev_Ok cc nL hh own Ts Tn Tq cl isI CO pc (a_putf ty ci kf) := by
  intro p l e R s m args below meth c Q D cs ox A al0 k0 n0 call kont f hs o hs' cx hI hC hR hT hpc h hk
  obtain ⟨pc', lo, st⟩ := f
  cases hpc
  obtain ⟨⟨hx, hb, hml, hown, hts⟩, ⟨hKK, hA, hNw, hZU, hZS, hTq, hNc⟩, hEx, hRc, hRs⟩ := cx
  have h : (a_putf ty ci kf) call kont (pc', lo, st) hs = some (o, hs') := h
  match st, h with
  | v :: .ref a :: st, h =>
    unfold a_putf at h
    dsimp only at h
    cases hq : hs.1[a]? with
    | none => rw [hq] at h; cases h
    | some e0 =>
      rw [hq] at h
      obtain ⟨t0, fs⟩ := e0
      cases t0 with
      | inl t => cases h
      | inr cx =>
        dsimp only at h
        cases hb2 : (Nat.beq cx ci && (ev_fit ty v && decide (kf < fs.length))) with
        | false => rw [hb2] at h; cases h
        | true =>
          rw [hb2] at h
          simp only [Bool.and_eq_true, decide_eq_true_eq] at hb2
          obtain ⟨q1, q2, q3⟩ := hb2
          cases Nat.eq_of_beq_eq_true q1
          dsimp only [cond_true] at h
          intro h1 h2
          obtain ⟨g1, g2, g3⟩ := hk _ _ h h1 h2
          refine ⟨g1, g2, fun al H locs ls w wl wv hl => ?_⟩
          have he := ev_w_get (cs := cs) (ox := ox) w.2.1 hq
          have hf := ev_fit_spec ox al (ty0 kf) (v := v) (by rw [htc]; exact q2)
          have hset : (ev_w cs ox al hs.1).set a (al.getD a 0, .inr (ci, (fs.map (ev_rv ox al)).set kf (ev_rv ox al v))) = ev_w cs ox al (hs.1.set a (.inr ci, fs.set kf v)) := by
            rw [← ev_w_set w.2.1 a (.inr ci, fs.set kf v)]
            show _ = (ev_w cs ox al hs.1).set a (al.getD a 0, .inr (ci, (fs.set kf v).map (ev_rv ox al)))
            rw [List.map_set]
          refine va_putF hx hb hts hin ty0 hty hnm hown hKK w.2.2.1 w.2.2.2.1 w.2.2.2.2.1 a (fs := fs.map (ev_rv ox al)) he hc kf hkf (hts _ hw) (fun x h => h) hfin (hI hi2) hdl (hty kf hkf) hf.1 hf.2 (by rw [List.length_map]; exact q3) d (fun H1 locs1 hP1 hD1 hS1 => ?_)
          rw [hset] at hP1 hD1
          exact g3 al H1 locs1 ls ⟨w.1, by rw [List.length_set]; exact w.2.1, hP1, hD1, hS1, ev_wf_set w.2.2.2.2.2 (ev_mem_set (w.2.2.2.2.2 _ (List.mem_of_getElem? hq)) (ev_hd wv))⟩ (by dsimp only; rw [List.length_set]; exact wl) (by dsimp only; rw [List.length_set]; exact ev_tl (ev_tl wv)) hl
theorem ok_putfieldN {C : String} {T : u_T} {N index ci kf : Nat} (d : decode cc pc = .ok (.putfield index, 3)) (hc : cl[ci]? = some (C, T, N)) (hin : ∀ w ∈ u_ws C T N, w ∈ Ts) (hkf : kf < N) {ty : Nat} {ty0 : Nat → FieldType} (hty : ∀ k, k < N → parseFieldDescriptor (T k).2.2.1 = some (ty0 k)) (hnm : ∀ a, a < N → ∀ b, b < N → a ≠ b → (T a).2.1 ≠ (T b).2.1) (htc : ev_tc (ty0 kf) = ty) {host : String} (hw : Cond.fieldLinkNest own index (T kf).1 (T kf).2.1 (T kf).2.2.1 host ∈ Tn) (hfin : (T kf).2.2.2 = false) : ev_Ok cc nL hh own Ts Tn Tq cl isI CO pc (a_putf ty ci kf) := by
  intro p l e R s m args below meth c Q D cs ox A al0 k0 n0 call kont f hs o hs' cx hI hC hR hT hpc h hk
  obtain ⟨pc', lo, st⟩ := f
  cases hpc
  obtain ⟨⟨hx, hb, hml, hown, hts⟩, ⟨hKK, hA, hNw, hZU, hZS, hTq, hNc⟩, hEx, hRc, hRs⟩ := cx
  have h : (a_putf ty ci kf) call kont (pc', lo, st) hs = some (o, hs') := h
  match st, h with
  | v :: .ref a :: st, h =>
    unfold a_putf at h
    dsimp only at h
    cases hq : hs.1[a]? with
    | none => rw [hq] at h; cases h
    | some e0 =>
      rw [hq] at h
      obtain ⟨t0, fs⟩ := e0
      cases t0 with
      | inl t => cases h
      | inr cx =>
        dsimp only at h
        cases hb2 : (Nat.beq cx ci && (ev_fit ty v && decide (kf < fs.length))) with
        | false => rw [hb2] at h; cases h
        | true =>
          rw [hb2] at h
          simp only [Bool.and_eq_true, decide_eq_true_eq] at hb2
          obtain ⟨q1, q2, q3⟩ := hb2
          cases Nat.eq_of_beq_eq_true q1
          dsimp only [cond_true] at h
          intro h1 h2
          obtain ⟨g1, g2, g3⟩ := hk _ _ h h1 h2
          refine ⟨g1, g2, fun al H locs ls w wl wv hl => ?_⟩
          have he := ev_w_get (cs := cs) (ox := ox) w.2.1 hq
          have hf := ev_fit_spec ox al (ty0 kf) (v := v) (by rw [htc]; exact q2)
          have hset : (ev_w cs ox al hs.1).set a (al.getD a 0, .inr (ci, (fs.map (ev_rv ox al)).set kf (ev_rv ox al v))) = ev_w cs ox al (hs.1.set a (.inr ci, fs.set kf v)) := by
            rw [← ev_w_set w.2.1 a (.inr ci, fs.set kf v)]
            show _ = (ev_w cs ox al hs.1).set a (al.getD a 0, .inr (ci, (fs.set kf v).map (ev_rv ox al)))
            rw [List.map_set]
          refine va_putN hx hb hts hin ty0 hty hnm hown hKK w.2.2.1 w.2.2.2.1 w.2.2.2.2.1 a (fs := fs.map (ev_rv ox al)) he hc kf hkf (va_Nw.use rfl (hNw _ hw).2) (fun x h => h) hfin (hty kf hkf) hf.1 hf.2 (by rw [List.length_map]; exact q3) d (fun H1 locs1 hP1 hD1 hS1 => ?_)
          rw [hset] at hP1 hD1
          exact g3 al H1 locs1 ls ⟨w.1, by rw [List.length_set]; exact w.2.1, hP1, hD1, hS1, ev_wf_set w.2.2.2.2.2 (ev_mem_set (w.2.2.2.2.2 _ (List.mem_of_getElem? hq)) (ev_hd wv))⟩ (by dsimp only; rw [List.length_set]; exact wl) (by dsimp only; rw [List.length_set]; exact ev_tl (ev_tl wv)) hl
theorem ok_iaload (d : decode cc pc = .ok (.iaload, 1)) : ev_Ok cc nL hh own Ts Tn Tq cl isI CO pc (a_ild 0) := by
  intro p l e R s m args below meth c Q D cs ox A al0 k0 n0 call kont f hs o hs' cx hI hC hR hT hpc h hk
  obtain ⟨pc', lo, st⟩ := f
  cases hpc
  obtain ⟨⟨hx, hb, hml, hown, hts⟩, ⟨hKK, hA, hNw, hZU, hZS, hTq, hNc⟩, hEx, hRc, hRs⟩ := cx
  have h : (a_ild 0) call kont (pc', lo, st) hs = some (o, hs') := h
  match st, h with
  | .int i :: .ref a :: st, h =>
    unfold a_ild at h
    dsimp only at h
    cases hq : hs.1[a]? with
    | none => rw [hq] at h; cases h
    | some e0 =>
      rw [hq] at h
      obtain ⟨t0, vs⟩ := e0
      cases t0 with
      | inr cx => cases h
      | inl t =>
        dsimp only at h
        cases hb2 : Nat.beq t 0 with
        | false => rw [hb2] at h; cases h
        | true =>
          rw [hb2] at h
          cases Nat.eq_of_beq_eq_true hb2
          dsimp only [cond_true] at h
          cases hv : ev_at vs i with
          | none => rw [hv] at h; cases h
          | some v =>
            rw [hv] at h
            cases v with
            | int x =>
              dsimp only at h
              obtain ⟨n1, n2⟩ := ev_at_spec hv
              intro h1 h2
              obtain ⟨g1, g2, g3⟩ := hk _ _ h h1 h2
              refine ⟨g1, g2, fun al H locs ls w wl wv hl => ?_⟩
              have he := ev_w_get (cs := cs) (ox := ox) w.2.1 hq
              have k3 := g3 al H locs ls w wl (ev_allc trivial (ev_tl (ev_tl wv))) hl
              refine va_iald hx hb hKK w.2.2.1 a 0 (n := vs.length) (f := fun j => ev_i (vs.getD j (.int 0))) he rfl n1 d ?_
              have hx2 : ev_i (vs.getD i.toNatClampNeg (.int 0)) = x := by rw [List.getD_eq_getElem?_getD, n2]; rfl
              show W p l e R s m args below meth c H locs _ _ Q (F0 m _ ls (.int (ev_i (vs.getD i.toNatClampNeg (.int 0))) :: _))
              rw [hx2]
              exact k3
            | _ => cases h
theorem ok_zaload (d : decode cc pc = .ok (.baload, 1)) : ev_Ok cc nL hh own Ts Tn Tq cl isI CO pc (a_ild 1) := by
  intro p l e R s m args below meth c Q D cs ox A al0 k0 n0 call kont f hs o hs' cx hI hC hR hT hpc h hk
  obtain ⟨pc', lo, st⟩ := f
  cases hpc
  obtain ⟨⟨hx, hb, hml, hown, hts⟩, ⟨hKK, hA, hNw, hZU, hZS, hTq, hNc⟩, hEx, hRc, hRs⟩ := cx
  have h : (a_ild 1) call kont (pc', lo, st) hs = some (o, hs') := h
  match st, h with
  | .int i :: .ref a :: st, h =>
    unfold a_ild at h
    dsimp only at h
    cases hq : hs.1[a]? with
    | none => rw [hq] at h; cases h
    | some e0 =>
      rw [hq] at h
      obtain ⟨t0, vs⟩ := e0
      cases t0 with
      | inr cx => cases h
      | inl t =>
        dsimp only at h
        cases hb2 : Nat.beq t 1 with
        | false => rw [hb2] at h; cases h
        | true =>
          rw [hb2] at h
          cases Nat.eq_of_beq_eq_true hb2
          dsimp only [cond_true] at h
          cases hv : ev_at vs i with
          | none => rw [hv] at h; cases h
          | some v =>
            rw [hv] at h
            cases v with
            | int x =>
              dsimp only at h
              obtain ⟨n1, n2⟩ := ev_at_spec hv
              intro h1 h2
              obtain ⟨g1, g2, g3⟩ := hk _ _ h h1 h2
              refine ⟨g1, g2, fun al H locs ls w wl wv hl => ?_⟩
              have he := ev_w_get (cs := cs) (ox := ox) w.2.1 hq
              have k3 := g3 al H locs ls w wl (ev_allc trivial (ev_tl (ev_tl wv))) hl
              refine va_zald hx hb hKK w.2.2.1 a 1 (n := vs.length) (f := fun j => ev_i (vs.getD j (.int 0))) he rfl n1 d ?_
              have hx2 : ev_i (vs.getD i.toNatClampNeg (.int 0)) = x := by rw [List.getD_eq_getElem?_getD, n2]; rfl
              show W p l e R s m args below meth c H locs _ _ Q (F0 m _ ls (.int (ev_i (vs.getD i.toNatClampNeg (.int 0))) :: _))
              rw [hx2]
              exact k3
            | _ => cases h
theorem ok_laload (d : decode cc pc = .ok (.laload, 1)) : ev_Ok cc nL hh own Ts Tn Tq cl isI CO pc a_lld := by
  intro p l e R s m args below meth c Q D cs ox A al0 k0 n0 call kont f hs o hs' cx hI hC hR hT hpc h hk
  obtain ⟨pc', lo, st⟩ := f
  cases hpc
  obtain ⟨⟨hx, hb, hml, hown, hts⟩, ⟨hKK, hA, hNw, hZU, hZS, hTq, hNc⟩, hEx, hRc, hRs⟩ := cx
  have h : a_lld call kont (pc', lo, st) hs = some (o, hs') := h
  match st, h with
  | .int i :: .ref a :: st, h =>
    unfold a_lld at h
    dsimp only at h
    cases hq : hs.1[a]? with
    | none => rw [hq] at h; cases h
    | some e0 =>
      rw [hq] at h
      obtain ⟨t0, vs⟩ := e0
      cases t0 with
      | inr cx => cases h
      | inl t =>
        dsimp only at h
        cases hb2 : Nat.beq t 2 with
        | false => rw [hb2] at h; cases h
        | true =>
          rw [hb2] at h
          cases Nat.eq_of_beq_eq_true hb2
          dsimp only [cond_true] at h
          cases hv : ev_at vs i with
          | none => rw [hv] at h; cases h
          | some v =>
            rw [hv] at h
            cases v with
            | long x =>
              dsimp only at h
              obtain ⟨n1, n2⟩ := ev_at_spec hv
              intro h1 h2
              obtain ⟨g1, g2, g3⟩ := hk _ _ h h1 h2
              refine ⟨g1, g2, fun al H locs ls w wl wv hl => ?_⟩
              have he := ev_w_get (cs := cs) (ox := ox) w.2.1 hq
              have k3 := g3 al H locs ls w wl (ev_allc trivial (ev_tl (ev_tl wv))) hl
              refine va_lald hx hb hKK w.2.2.1 a 2 (n := vs.length) (f := fun j => ev_l (vs.getD j (.long 0))) he rfl n1 d ?_
              have hx2 : ev_l (vs.getD i.toNatClampNeg (.long 0)) = x := by rw [List.getD_eq_getElem?_getD, n2]; rfl
              show W p l e R s m args below meth c H locs _ _ Q (F0 m _ ls (.long (ev_l (vs.getD i.toNatClampNeg (.long 0))) :: _))
              rw [hx2]
              exact k3
            | _ => cases h
theorem ok_iastore (d : decode cc pc = .ok (.iastore, 1)) : ev_Ok cc nL hh own Ts Tn Tq cl isI CO pc (a_ist 0) := by
  intro p l e R s m args below meth c Q D cs ox A al0 k0 n0 call kont f hs o hs' cx hI hC hR hT hpc h hk
  obtain ⟨pc', lo, st⟩ := f
  cases hpc
  obtain ⟨⟨hx, hb, hml, hown, hts⟩, ⟨hKK, hA, hNw, hZU, hZS, hTq, hNc⟩, hEx, hRc, hRs⟩ := cx
  have h : (a_ist 0) call kont (pc', lo, st) hs = some (o, hs') := h
  match st, h with
  | .int x :: .int i :: .ref a :: st, h =>
    unfold a_ist at h
    dsimp only at h
    cases hq : hs.1[a]? with
    | none => rw [hq] at h; cases h
    | some e0 =>
      rw [hq] at h
      obtain ⟨t0, vs⟩ := e0
      cases t0 with
      | inr cx => cases h
      | inl t =>
        dsimp only at h
        cases hb2 : (Nat.beq t 0 && ev_fit 0 (.int x)) with
        | false => rw [hb2] at h; cases h
        | true =>
          rw [hb2] at h
          obtain ⟨q1, q2⟩ := Bool.and_eq_true_iff.mp hb2
          cases Nat.eq_of_beq_eq_true q1
          dsimp only [cond_true] at h
          cases hv : ev_at vs i with
          | none => rw [hv] at h; cases h
          | some v =>
            rw [hv] at h
            dsimp only at h
            obtain ⟨n1, n2⟩ := ev_at_spec hv
            intro h1 h2
            obtain ⟨g1, g2, g3⟩ := hk _ _ h h1 h2
            refine ⟨g1, g2, fun al H locs ls w wl wv hl => ?_⟩
            have he := ev_w_get (cs := cs) (ox := ox) w.2.1 hq
            have hset : (ev_w cs ox al hs.1).set a (al.getD a 0, .inl (cs 0, vs.length, .inl (upd (fun j => ev_i (vs.getD j (.int 0))) i.toNatClampNeg x))) = ev_w cs ox al (hs.1.set a (.inl 0, vs.set i.toNatClampNeg (.int x))) := by
              rw [← ev_w_set w.2.1 a (.inl 0, vs.set i.toNatClampNeg (.int x))]
              rw [ev_upd vs i.toNatClampNeg x (List.getElem?_eq_some_iff.mp n2).1]
              show _ = (ev_w cs ox al hs.1).set a (al.getD a 0, .inl (cs 0, ((vs.set i.toNatClampNeg (.int x)).length, _)))
              rw [List.length_set]
              rfl
            refine va_iast hx hb hKK w.2.2.1 w.2.2.2.1 w.2.2.2.2.1 a 0 (n := vs.length) (f := fun j => ev_i (vs.getD j (.int 0))) he rfl n1 d (fun H1 locs1 hP1 hD1 hS1 => ?_)
            rw [hset] at hP1 hD1
            exact g3 al H1 locs1 ls ⟨w.1, by rw [List.length_set]; exact w.2.1, hP1, hD1, hS1, ev_wf_set w.2.2.2.2.2 (ev_mem_set (w.2.2.2.2.2 _ (List.mem_of_getElem? hq)) (ev_hd wv))⟩ (by dsimp only; rw [List.length_set]; exact wl) (by dsimp only; rw [List.length_set]; exact ev_tl (ev_tl (ev_tl wv))) hl
theorem ok_zastore (d : decode cc pc = .ok (.bastore, 1)) : ev_Ok cc nL hh own Ts Tn Tq cl isI CO pc (a_ist 1) := by
  intro p l e R s m args below meth c Q D cs ox A al0 k0 n0 call kont f hs o hs' cx hI hC hR hT hpc h hk
  obtain ⟨pc', lo, st⟩ := f
  cases hpc
  obtain ⟨⟨hx, hb, hml, hown, hts⟩, ⟨hKK, hA, hNw, hZU, hZS, hTq, hNc⟩, hEx, hRc, hRs⟩ := cx
  have h : (a_ist 1) call kont (pc', lo, st) hs = some (o, hs') := h
  match st, h with
  | .int x :: .int i :: .ref a :: st, h =>
    unfold a_ist at h
    dsimp only at h
    cases hq : hs.1[a]? with
    | none => rw [hq] at h; cases h
    | some e0 =>
      rw [hq] at h
      obtain ⟨t0, vs⟩ := e0
      cases t0 with
      | inr cx => cases h
      | inl t =>
        dsimp only at h
        cases hb2 : (Nat.beq t 1 && ev_fit 1 (.int x)) with
        | false => rw [hb2] at h; cases h
        | true =>
          rw [hb2] at h
          obtain ⟨q1, q2⟩ := Bool.and_eq_true_iff.mp hb2
          cases Nat.eq_of_beq_eq_true q1
          dsimp only [cond_true] at h
          cases hv : ev_at vs i with
          | none => rw [hv] at h; cases h
          | some v =>
            rw [hv] at h
            dsimp only at h
            obtain ⟨n1, n2⟩ := ev_at_spec hv
            intro h1 h2
            obtain ⟨g1, g2, g3⟩ := hk _ _ h h1 h2
            refine ⟨g1, g2, fun al H locs ls w wl wv hl => ?_⟩
            have he := ev_w_get (cs := cs) (ox := ox) w.2.1 hq
            have hset : (ev_w cs ox al hs.1).set a (al.getD a 0, .inl (cs 1, vs.length, .inl (upd (fun j => ev_i (vs.getD j (.int 0))) i.toNatClampNeg (vp_nar .boolean x)))) = ev_w cs ox al (hs.1.set a (.inl 1, vs.set i.toNatClampNeg (.int x))) := by
              rw [← ev_w_set w.2.1 a (.inl 1, vs.set i.toNatClampNeg (.int x))]
              rw [ev_nar q2, ev_upd vs i.toNatClampNeg x (List.getElem?_eq_some_iff.mp n2).1]
              show _ = (ev_w cs ox al hs.1).set a (al.getD a 0, .inl (cs 1, ((vs.set i.toNatClampNeg (.int x)).length, _)))
              rw [List.length_set]
              rfl
            refine va_zast hx hb hKK w.2.2.1 w.2.2.2.1 w.2.2.2.2.1 a 1 (n := vs.length) (f := fun j => ev_i (vs.getD j (.int 0))) he rfl n1 d (fun H1 locs1 hP1 hD1 hS1 => ?_)
            rw [hset] at hP1 hD1
            exact g3 al H1 locs1 ls ⟨w.1, by rw [List.length_set]; exact w.2.1, hP1, hD1, hS1, ev_wf_set w.2.2.2.2.2 (ev_mem_set (w.2.2.2.2.2 _ (List.mem_of_getElem? hq)) (ev_hd wv))⟩ (by dsimp only; rw [List.length_set]; exact wl) (by dsimp only; rw [List.length_set]; exact ev_tl (ev_tl (ev_tl wv))) hl
theorem ok_lastore (d : decode cc pc = .ok (.lastore, 1)) : ev_Ok cc nL hh own Ts Tn Tq cl isI CO pc a_lst := by
  intro p l e R s m args below meth c Q D cs ox A al0 k0 n0 call kont f hs o hs' cx hI hC hR hT hpc h hk
  obtain ⟨pc', lo, st⟩ := f
  cases hpc
  obtain ⟨⟨hx, hb, hml, hown, hts⟩, ⟨hKK, hA, hNw, hZU, hZS, hTq, hNc⟩, hEx, hRc, hRs⟩ := cx
  have h : a_lst call kont (pc', lo, st) hs = some (o, hs') := h
  match st, h with
  | .long x :: .int i :: .ref a :: st, h =>
    unfold a_lst at h
    dsimp only at h
    cases hq : hs.1[a]? with
    | none => rw [hq] at h; cases h
    | some e0 =>
      rw [hq] at h
      obtain ⟨t0, vs⟩ := e0
      cases t0 with
      | inr cx => cases h
      | inl t =>
        dsimp only at h
        cases hb2 : Nat.beq t 2 with
        | false => rw [hb2] at h; cases h
        | true =>
          rw [hb2] at h
          have q1 : Nat.beq t 2 = true := hb2
          cases Nat.eq_of_beq_eq_true q1
          dsimp only [cond_true] at h
          cases hv : ev_at vs i with
          | none => rw [hv] at h; cases h
          | some v =>
            rw [hv] at h
            dsimp only at h
            obtain ⟨n1, n2⟩ := ev_at_spec hv
            intro h1 h2
            obtain ⟨g1, g2, g3⟩ := hk _ _ h h1 h2
            refine ⟨g1, g2, fun al H locs ls w wl wv hl => ?_⟩
            have he := ev_w_get (cs := cs) (ox := ox) w.2.1 hq
            have hset : (ev_w cs ox al hs.1).set a (al.getD a 0, .inl (cs 2, vs.length, .inr (.inl (vp_updL (fun j => ev_l (vs.getD j (.long 0))) i.toNatClampNeg x)))) = ev_w cs ox al (hs.1.set a (.inl 2, vs.set i.toNatClampNeg (.long x))) := by
              rw [← ev_w_set w.2.1 a (.inl 2, vs.set i.toNatClampNeg (.long x))]
              rw [ev_updL vs i.toNatClampNeg x (List.getElem?_eq_some_iff.mp n2).1]
              show _ = (ev_w cs ox al hs.1).set a (al.getD a 0, .inl (cs 2, ((vs.set i.toNatClampNeg (.long x)).length, _)))
              rw [List.length_set]
              rfl
            refine va_last hx hb hKK w.2.2.1 w.2.2.2.1 w.2.2.2.2.1 a 2 (n := vs.length) (f := fun j => ev_l (vs.getD j (.long 0))) he rfl n1 d (fun H1 locs1 hP1 hD1 hS1 => ?_)
            rw [hset] at hP1 hD1
            exact g3 al H1 locs1 ls ⟨w.1, by rw [List.length_set]; exact w.2.1, hP1, hD1, hS1, ev_wf_set w.2.2.2.2.2 (ev_mem_set (w.2.2.2.2.2 _ (List.mem_of_getElem? hq)) (ev_hd wv))⟩ (by dsimp only; rw [List.length_set]; exact wl) (by dsimp only; rw [List.length_set]; exact ev_tl (ev_tl (ev_tl wv))) hl
theorem ok_arraylength (d : decode cc pc = .ok (.arraylength, 1)) : ev_Ok cc nL hh own Ts Tn Tq cl isI CO pc a_alen := by
  intro p l e R s m args below meth c Q D cs ox A al0 k0 n0 call kont f hs o hs' cx hI hC hR hT hpc h hk
  obtain ⟨pc', lo, st⟩ := f
  cases hpc
  obtain ⟨⟨hx, hb, hml, hown, hts⟩, ⟨hKK, hA, hNw, hZU, hZS, hTq, hNc⟩, hEx, hRc, hRs⟩ := cx
  have h : a_alen call kont (pc', lo, st) hs = some (o, hs') := h
  match st, h with
  | .ref a :: st, h =>
    unfold a_alen at h
    dsimp only at h
    cases hq : hs.1[a]? with
    | none => rw [hq] at h; cases h
    | some e0 =>
      rw [hq] at h
      obtain ⟨t0, vs⟩ := e0
      cases t0 with
      | inr cx => cases h
      | inl t =>
        dsimp only at h
        cases hb2 : Nat.ble t 2 with
        | false => rw [hb2] at h; cases h
        | true =>
          rw [hb2] at h
          dsimp only [cond_true] at h
          have q1 : t ≤ 2 := Nat.le_of_ble_eq_true hb2
          intro h1 h2
          obtain ⟨g1, g2, g3⟩ := hk _ _ h h1 h2
          refine ⟨g1, g2, fun al H locs ls w wl wv hl => ?_⟩
          have he := ev_w_get (cs := cs) (ox := ox) w.2.1 hq
          have ht : (ev_tys cs)[t]? = some (cs t, ev_ty t) := by rcases (show t = 0 ∨ t = 1 ∨ t = 2 by omega) with rfl | rfl | rfl <;> rfl
          exact va_alen hx hb hKK w.2.2.1 a t he ht rfl d (g3 al H locs ls w wl (ev_allc trivial (ev_tl wv)) hl)
theorem ok_new {C : String} {T : u_T} {N index ci : Nat} {fs : List Value} (d : decode cc pc = .ok (.new index, 3)) (hc : cl[ci]? = some (C, T, N)) (hin : ∀ w ∈ u_ws C T N, w ∈ Ts) (ty : Nat → FieldType) (hty : ∀ k, k < N → parseFieldDescriptor (T k).2.2.1 = some (ty k)) (hw1 : Cond.classLink own index C ∈ Ts) (hw2 : Cond.instantiable C N ∈ Ts) (hw3 : Cond.initialized C ∈ Ts) (hfs : ∀ j, j < N → defaultValue (ty j) = vp_V fs j) (hcon : fs.all (fun v => match v with | .ref _ => false | .float _ => false | _ => true) = true) : ev_Ok cc nL hh own Ts Tn Tq cl isI CO pc (a_new ci N fs) := by
  intro p l e R s m args below meth c Q D cs ox A al0 k0 n0 call kont f hs o hs' cx hI hC hR hT hpc h hk
  obtain ⟨pc', lo, st⟩ := f
  cases hpc
  obtain ⟨⟨hx, hb, hml, hown, hts⟩, ⟨hKK, hA, hNw, hZU, hZS, hTq, hNc⟩, hEx, hRc, hRs⟩ := cx
  have h : (a_new ci N fs) call kont (pc', lo, st) hs = some (o, hs') := h
  have hcl : ∀ v ∈ fs, ev_ok 0 v ∧ ∀ (ox : Nat → Nat) (al : List Nat), ev_rv ox al v = v := by
    intro v hv
    have h3 := List.all_eq_true.mp hcon v hv
    cases v with
    | ref a => cases h3
    | float a => cases h3
    | _ => exact ⟨trivial, fun _ _ => rfl⟩
  have h : kont (pc' + 3, lo, .ref hs.1.length :: st) (hs.1 ++ [(.inr ci, fs)], hs.2.1 + 1, hs.2.2 + N) = some (o, hs') := h
  intro h1 h2
  obtain ⟨g1, g2, g3⟩ := hk _ _ h (Nat.le_succ_of_le h1) (Nat.le_add_right_of_le h2)
  dsimp only at g1 g2 g3
  refine ⟨Nat.le_of_succ_le g1, Nat.le_trans (Nat.le_add_right _ _) g2, fun al H locs ls w wl wv hl => ?_⟩
  refine va_new (fs := fs) hx hb hts hin ty hty hown (hts _ hw1) (hts _ hw2) (hts _ hw3) hKK w.2.2.1 w.2.2.2.1 w.2.2.2.2.1 hA hc hfs (by omega) (by omega) d (fun q H1 hP1 hD1 hS1 => ?_)
  have hwp : ev_w cs ox al hs.1 ++ [(q, .inr (ci, fs))] = ev_w cs ox (al ++ [q]) (hs.1 ++ [(.inr ci, fs)]) := by
    rw [← ev_w_push w.2.1 w.2.2.2.2.2 q (e := (.inr ci, fs)) (fun v hv => ev_ok_mono (Nat.zero_le _) (hcl v hv).1)]
    show _ = ev_w cs ox al hs.1 ++ [(q, .inr (ci, fs.map (ev_rv ox al)))]
    rw [List.map_congr_left (fun v hv => (hcl v hv).2 ox al), List.map_id']
  rw [hwp] at hP1 hD1
  have k3 := g3 (al ++ [q]) H1 locs ls ⟨List.IsPrefix.trans w.1 (List.prefix_append _ _), by rw [List.length_append, List.length_append, w.2.1]; rfl, hP1, hD1, hS1, ev_wf_push w.2.2.2.2.2 (fun v hv => ev_ok_mono (Nat.zero_le _) (hcl v hv).1)⟩ (fun q hq => ev_ok_mono (by rw [List.length_append]; exact Nat.le_add_right _ _) (wl q hq)) (ev_allc (show hs.1.length < _ by rw [List.length_append]; exact Nat.lt_succ_self _) (fun v hv => ev_ok_mono (by rw [List.length_append]; exact Nat.le_add_right _ _) (wv v hv))) (by rw [ev_loc_app w.2.1 wl]; exact hl)
  rw [show hs.2.1 + 1 - k0 = hs.2.1 - k0 + 1 by omega, show hs.2.2 + N - n0 = hs.2.2 - n0 + N by omega, List.map_cons, ev_stk_app w.2.1 wv] at k3
  rw [show ev_rv ox (al ++ [q]) (.ref hs.1.length) = .ref q from ev_rv_new ox w.2.1 q] at k3
  exact k3
theorem ok_newint (d : decode cc pc = .ok (.newarray .int, 2)) (hw : Cond.arrayClass .int ∈ Ts) : ev_Ok cc nL hh own Ts Tn Tq cl isI CO pc (a_newa 0) := by
  intro p l e R s m args below meth c Q D cs ox A al0 k0 n0 call kont f hs o hs' cx hI hC hR hT hpc h hk
  obtain ⟨pc', lo, st⟩ := f
  cases hpc
  obtain ⟨⟨hx, hb, hml, hown, hts⟩, ⟨hKK, hA, hNw, hZU, hZS, hTq, hNc⟩, hEx, hRc, hRs⟩ := cx
  have h : (a_newa 0) call kont (pc', lo, st) hs = some (o, hs') := h
  match st, h with
  | .int n :: st, h =>
    have h : (if n < 0 then none else bif Nat.ble (n.toNatClampNeg * 8) 536870912 then kont (pc' + 2, lo, .ref hs.1.length :: st) (hs.1 ++ [(.inl 0, List.replicate n.toNatClampNeg (ev_dv 0))], hs.2.1 + 1, hs.2.2 + n.toNatClampNeg) else none) = some (o, hs') := h
    by_cases hn : n < 0
    · rw [if_pos hn] at h; cases h
    · rw [if_neg hn] at h
      cases hb2 : Nat.ble (n.toNatClampNeg * 8) 536870912 with
      | false => rw [hb2] at h; cases h
      | true =>
        rw [hb2] at h
        dsimp only [cond_true] at h
        have hby : n.toNatClampNeg * 8 ≤ 536870912 := Nat.le_of_ble_eq_true hb2
        intro h1 h2
        obtain ⟨g1, g2, g3⟩ := hk _ _ h (Nat.le_succ_of_le h1) (Nat.le_add_right_of_le h2)
        dsimp only at g1 g2 g3
        refine ⟨Nat.le_of_succ_le g1, Nat.le_trans (Nat.le_add_right _ _) g2, fun al H locs ls w wl wv hl => ?_⟩
        refine va_newa (atype := .int) (ty := .int) (N' := n.toNatClampNeg) (a0 := ev_arr 0 (List.replicate n.toNatClampNeg (ev_dv 0))) hx hb (hts _ hw) rfl hKK w.2.2.1 w.2.2.2.1 w.2.2.2.2.1 hA (fun cA => ?_) hn rfl (show n.toNatClampNeg * 4 ≤ 536870912 by omega) (by omega) (by omega) d (fun q cA H1 hK1 hP1 hD1 hS1 => ?_)
        · exact ev_arr_new 0 n.toNatClampNeg cA
        · have hcA : cA = cs 0 := by
            have h5 := (hK1.2 3 (cA, .int) rfl).2
            have h6 := (hKK.2 0 (cs 0, .int) rfl).2
            exact Option.some.inj (h5.symm.trans h6)
          subst hcA
          have hwp : ev_w cs ox al hs.1 ++ [(q, .inl (cs 0, ev_arr 0 (List.replicate n.toNatClampNeg (ev_dv 0))))] = ev_w cs ox (al ++ [q]) (hs.1 ++ [(.inl 0, List.replicate n.toNatClampNeg (ev_dv 0))]) :=
            ev_w_push w.2.1 w.2.2.2.2.2 q (e := (.inl 0, List.replicate n.toNatClampNeg (ev_dv 0))) (fun v hv => by rw [List.eq_of_mem_replicate hv]; trivial)
          rw [hwp] at hP1 hD1
          have k3 := g3 (al ++ [q]) H1 locs ls ⟨List.IsPrefix.trans w.1 (List.prefix_append _ _), by rw [List.length_append, List.length_append, w.2.1]; rfl, hP1, hD1, hS1, ev_wf_push w.2.2.2.2.2 (fun v hv => by rw [List.eq_of_mem_replicate hv]; trivial)⟩ (fun q hq => ev_ok_mono (by rw [List.length_append]; exact Nat.le_add_right _ _) (wl q hq)) (ev_allc (show hs.1.length < _ by rw [List.length_append]; exact Nat.lt_succ_self _) (fun v hv => ev_ok_mono (by rw [List.length_append]; exact Nat.le_add_right _ _) (ev_tl wv v hv))) (by rw [ev_loc_app w.2.1 wl]; exact hl)
          rw [show hs.2.1 + 1 - k0 = hs.2.1 - k0 + 1 by omega, show hs.2.2 + n.toNatClampNeg - n0 = hs.2.2 - n0 + n.toNatClampNeg by omega, List.map_cons, ev_stk_app w.2.1 (ev_tl wv)] at k3
          rw [show ev_rv ox (al ++ [q]) (.ref hs.1.length) = .ref q from ev_rv_new ox w.2.1 q] at k3
          exact k3
theorem ok_newboolean (d : decode cc pc = .ok (.newarray .boolean, 2)) (hw : Cond.arrayClass .boolean ∈ Ts) : ev_Ok cc nL hh own Ts Tn Tq cl isI CO pc (a_newa 1) := by
  intro p l e R s m args below meth c Q D cs ox A al0 k0 n0 call kont f hs o hs' cx hI hC hR hT hpc h hk
  obtain ⟨pc', lo, st⟩ := f
  cases hpc
  obtain ⟨⟨hx, hb, hml, hown, hts⟩, ⟨hKK, hA, hNw, hZU, hZS, hTq, hNc⟩, hEx, hRc, hRs⟩ := cx
  have h : (a_newa 1) call kont (pc', lo, st) hs = some (o, hs') := h
  match st, h with
  | .int n :: st, h =>
    have h : (if n < 0 then none else bif Nat.ble (n.toNatClampNeg * 8) 536870912 then kont (pc' + 2, lo, .ref hs.1.length :: st) (hs.1 ++ [(.inl 1, List.replicate n.toNatClampNeg (ev_dv 1))], hs.2.1 + 1, hs.2.2 + n.toNatClampNeg) else none) = some (o, hs') := h
    by_cases hn : n < 0
    · rw [if_pos hn] at h; cases h
    · rw [if_neg hn] at h
      cases hb2 : Nat.ble (n.toNatClampNeg * 8) 536870912 with
      | false => rw [hb2] at h; cases h
      | true =>
        rw [hb2] at h
        dsimp only [cond_true] at h
        have hby : n.toNatClampNeg * 8 ≤ 536870912 := Nat.le_of_ble_eq_true hb2
        intro h1 h2
        obtain ⟨g1, g2, g3⟩ := hk _ _ h (Nat.le_succ_of_le h1) (Nat.le_add_right_of_le h2)
        dsimp only at g1 g2 g3
        refine ⟨Nat.le_of_succ_le g1, Nat.le_trans (Nat.le_add_right _ _) g2, fun al H locs ls w wl wv hl => ?_⟩
        refine va_newa (atype := .boolean) (ty := .boolean) (N' := n.toNatClampNeg) (a0 := ev_arr 1 (List.replicate n.toNatClampNeg (ev_dv 1))) hx hb (hts _ hw) rfl hKK w.2.2.1 w.2.2.2.1 w.2.2.2.2.1 hA (fun cA => ?_) hn rfl (show n.toNatClampNeg * 1 ≤ 536870912 by omega) (by omega) (by omega) d (fun q cA H1 hK1 hP1 hD1 hS1 => ?_)
        · exact ev_arr_new 1 n.toNatClampNeg cA
        · have hcA : cA = cs 1 := by
            have h5 := (hK1.2 3 (cA, .boolean) rfl).2
            have h6 := (hKK.2 1 (cs 1, .boolean) rfl).2
            exact Option.some.inj (h5.symm.trans h6)
          subst hcA
          have hwp : ev_w cs ox al hs.1 ++ [(q, .inl (cs 1, ev_arr 1 (List.replicate n.toNatClampNeg (ev_dv 1))))] = ev_w cs ox (al ++ [q]) (hs.1 ++ [(.inl 1, List.replicate n.toNatClampNeg (ev_dv 1))]) :=
            ev_w_push w.2.1 w.2.2.2.2.2 q (e := (.inl 1, List.replicate n.toNatClampNeg (ev_dv 1))) (fun v hv => by rw [List.eq_of_mem_replicate hv]; trivial)
          rw [hwp] at hP1 hD1
          have k3 := g3 (al ++ [q]) H1 locs ls ⟨List.IsPrefix.trans w.1 (List.prefix_append _ _), by rw [List.length_append, List.length_append, w.2.1]; rfl, hP1, hD1, hS1, ev_wf_push w.2.2.2.2.2 (fun v hv => by rw [List.eq_of_mem_replicate hv]; trivial)⟩ (fun q hq => ev_ok_mono (by rw [List.length_append]; exact Nat.le_add_right _ _) (wl q hq)) (ev_allc (show hs.1.length < _ by rw [List.length_append]; exact Nat.lt_succ_self _) (fun v hv => ev_ok_mono (by rw [List.length_append]; exact Nat.le_add_right _ _) (ev_tl wv v hv))) (by rw [ev_loc_app w.2.1 wl]; exact hl)
          rw [show hs.2.1 + 1 - k0 = hs.2.1 - k0 + 1 by omega, show hs.2.2 + n.toNatClampNeg - n0 = hs.2.2 - n0 + n.toNatClampNeg by omega, List.map_cons, ev_stk_app w.2.1 (ev_tl wv)] at k3
          rw [show ev_rv ox (al ++ [q]) (.ref hs.1.length) = .ref q from ev_rv_new ox w.2.1 q] at k3
          exact k3
theorem ok_newlong (d : decode cc pc = .ok (.newarray .long, 2)) (hw : Cond.arrayClass .long ∈ Ts) : ev_Ok cc nL hh own Ts Tn Tq cl isI CO pc (a_newa 2) := by
  intro p l e R s m args below meth c Q D cs ox A al0 k0 n0 call kont f hs o hs' cx hI hC hR hT hpc h hk
  obtain ⟨pc', lo, st⟩ := f
  cases hpc
  obtain ⟨⟨hx, hb, hml, hown, hts⟩, ⟨hKK, hA, hNw, hZU, hZS, hTq, hNc⟩, hEx, hRc, hRs⟩ := cx
  have h : (a_newa 2) call kont (pc', lo, st) hs = some (o, hs') := h
  match st, h with
  | .int n :: st, h =>
    have h : (if n < 0 then none else bif Nat.ble (n.toNatClampNeg * 8) 536870912 then kont (pc' + 2, lo, .ref hs.1.length :: st) (hs.1 ++ [(.inl 2, List.replicate n.toNatClampNeg (ev_dv 2))], hs.2.1 + 1, hs.2.2 + n.toNatClampNeg) else none) = some (o, hs') := h
    by_cases hn : n < 0
    · rw [if_pos hn] at h; cases h
    · rw [if_neg hn] at h
      cases hb2 : Nat.ble (n.toNatClampNeg * 8) 536870912 with
      | false => rw [hb2] at h; cases h
      | true =>
        rw [hb2] at h
        dsimp only [cond_true] at h
        have hby : n.toNatClampNeg * 8 ≤ 536870912 := Nat.le_of_ble_eq_true hb2
        intro h1 h2
        obtain ⟨g1, g2, g3⟩ := hk _ _ h (Nat.le_succ_of_le h1) (Nat.le_add_right_of_le h2)
        dsimp only at g1 g2 g3
        refine ⟨Nat.le_of_succ_le g1, Nat.le_trans (Nat.le_add_right _ _) g2, fun al H locs ls w wl wv hl => ?_⟩
        refine va_newa (atype := .long) (ty := .long) (N' := n.toNatClampNeg) (a0 := ev_arr 2 (List.replicate n.toNatClampNeg (ev_dv 2))) hx hb (hts _ hw) rfl hKK w.2.2.1 w.2.2.2.1 w.2.2.2.2.1 hA (fun cA => ?_) hn rfl (show n.toNatClampNeg * 8 ≤ 536870912 by omega) (by omega) (by omega) d (fun q cA H1 hK1 hP1 hD1 hS1 => ?_)
        · exact ev_arr_new 2 n.toNatClampNeg cA
        · have hcA : cA = cs 2 := by
            have h5 := (hK1.2 3 (cA, .long) rfl).2
            have h6 := (hKK.2 2 (cs 2, .long) rfl).2
            exact Option.some.inj (h5.symm.trans h6)
          subst hcA
          have hwp : ev_w cs ox al hs.1 ++ [(q, .inl (cs 2, ev_arr 2 (List.replicate n.toNatClampNeg (ev_dv 2))))] = ev_w cs ox (al ++ [q]) (hs.1 ++ [(.inl 2, List.replicate n.toNatClampNeg (ev_dv 2))]) :=
            ev_w_push w.2.1 w.2.2.2.2.2 q (e := (.inl 2, List.replicate n.toNatClampNeg (ev_dv 2))) (fun v hv => by rw [List.eq_of_mem_replicate hv]; trivial)
          rw [hwp] at hP1 hD1
          have k3 := g3 (al ++ [q]) H1 locs ls ⟨List.IsPrefix.trans w.1 (List.prefix_append _ _), by rw [List.length_append, List.length_append, w.2.1]; rfl, hP1, hD1, hS1, ev_wf_push w.2.2.2.2.2 (fun v hv => by rw [List.eq_of_mem_replicate hv]; trivial)⟩ (fun q hq => ev_ok_mono (by rw [List.length_append]; exact Nat.le_add_right _ _) (wl q hq)) (ev_allc (show hs.1.length < _ by rw [List.length_append]; exact Nat.lt_succ_self _) (fun v hv => ev_ok_mono (by rw [List.length_append]; exact Nat.le_add_right _ _) (ev_tl wv v hv))) (by rw [ev_loc_app w.2.1 wl]; exact hl)
          rw [show hs.2.1 + 1 - k0 = hs.2.1 - k0 + 1 by omega, show hs.2.2 + n.toNatClampNeg - n0 = hs.2.2 - n0 + n.toNatClampNeg by omega, List.map_cons, ev_stk_app w.2.1 (ev_tl wv)] at k3
          rw [show ev_rv ox (al ++ [q]) (.ref hs.1.length) = .ref q from ev_rv_new ox w.2.1 q] at k3
          exact k3
theorem ok_objinit {index : Nat} (d : decode cc pc = .ok (.invokespecial index, 3)) (hw1 : Cond.methodLink own index objectInit ∈ Ts) (hw2 : Cond.instanceMethod objectInit ∈ Ts) (hw3 : Cond.code objectInit ⟨#[0xb1]⟩ 1 none ∈ Ts) (hR1 : ∀ (l : Launch) (R : Room) (cs : Nat → ClassId) (D : va_G) (ox : Nat → Nat) (A : Nat → Prop) (call : ECall), CO l R cs D ox A call → 1 ≤ R.frames ∧ 20 ≤ R.locals) : ev_Ok cc nL hh own Ts Tn Tq cl isI CO pc a_objI := by
  intro p l e R s m args below meth c Q D cs ox A al0 k0 n0 call kont f hs o hs' cx hI hC hR hT hpc h hk
  obtain ⟨pc', lo, st⟩ := f
  cases hpc
  obtain ⟨⟨hx, hb, hml, hown, hts⟩, ⟨hKK, hA, hNw, hZU, hZS, hTq, hNc⟩, hEx, hRc, hRs⟩ := cx
  have h : a_objI call kont (pc', lo, st) hs = some (o, hs') := h
  match st, h with
  | .ref a :: st, h =>
    have h : (bif Nat.ble (st.map fun v => v.category).sum 8 then kont (pc' + 3, lo, st) hs else none) = some (o, hs') := h
    cases hb2 : Nat.ble (st.map fun v => v.category).sum 8 with
    | false => rw [hb2] at h; cases h
    | true =>
      rw [hb2] at h
      dsimp only [cond_true] at h
      have hs8 : (st.map fun v => v.category).sum ≤ 8 := Nat.le_of_ble_eq_true hb2
      obtain ⟨r1, r2⟩ := hR1 l R cs D ox A call hC
      intro h1 h2
      obtain ⟨g1, g2, g3⟩ := hk _ _ h h1 h2
      refine ⟨g1, g2, fun al H locs ls w wl wv hl => ?_⟩
      have hcs : ((st.map (ev_rv ox al)).map fun v => v.category).sum = (st.map fun v => v.category).sum := ev_cats ox al st
      exact W.objInit (g := F0 m pc' ls (.ref (al.getD a 0) :: st.map (ev_rv ox al))) hx hb hown (hts _ hw1) (hts _ hw2) (hts _ hw3) rfl (by show ls.size = c.maxLocals; rw [hml]; exact hl.1) rfl d r1 (by
        have h7 := lv_room (m := m) (pc := pc') (ls := ls) (rest := .ref (al.getD a 0) :: st.map (ev_rv ox al)) (st := st.map (ev_rv ox al)) (by rw [hcs]; exact hs8)
        omega) (g3 al H locs ls w wl (ev_tl wv) hl)
def a_copy (t : Nat) : EA := fun _ k f hs => match f.2.2 with
  | .int n :: .int dp :: .ref b :: .int sp :: .ref a :: st => match hs.1[a]?, hs.1[b]? with
    | some (.inl t0, v0), some (.inl t1, v1) =>
      bif (Nat.beq t0 t && Nat.beq t1 t) && ((decide (sp = 0) && decide (dp = 0)) && (decide (0 ≤ n) && (Nat.ble n.toNatClampNeg v0.length && (Nat.ble n.toNatClampNeg v1.length && (((v0.take n.toNatClampNeg).all (ev_fit t)) && Nat.ble ((st.map fun v => v.category).sum) 8)))))
      then k (f.1 + 3, f.2.1, st) (hs.1.set b (.inl t1, v0.take n.toNatClampNeg ++ v1.drop n.toNatClampNeg), hs.2) else none
    | _, _ => none
  | _ => none
theorem ev_cpy (v0 v1 : List Value) (n : Nat) (h0 : n ≤ v0.length) : va_cpy (fun j => ev_i (v0.getD j (.int 0))) (fun j => ev_i (v1.getD j (.int 0))) 0 0 n = fun j => ev_i ((v0.take n ++ v1.drop n).getD j (.int 0)) := by
  funext j
  show (if 0 ≤ j ∧ j < 0 + n then ev_i (v0.getD (0 + (j - 0)) (.int 0)) else ev_i (v1.getD j (.int 0))) = _
  rw [List.getD_eq_getElem?_getD, List.getD_eq_getElem?_getD, List.getD_eq_getElem?_getD]
  by_cases hj : j < n
  · rw [if_pos ⟨Nat.zero_le _, by omega⟩, List.getElem?_append_left (by rw [List.length_take]; omega), List.getElem?_take_of_lt hj]
    simp
  · rw [if_neg (fun h => hj (by omega)), List.getElem?_append_right (by rw [List.length_take]; omega), List.length_take, Nat.min_eq_left h0, List.getElem?_drop, show n + (j - n) = j by omega]
theorem ok_copyi {index : Nat} (d : decode cc pc = .ok (.invokestatic index, 3)) (hw1 : Cond.methodLink own index arraycopyName ∈ Ts) (hw2 : Cond.native arraycopyName ∈ Ts) (hw3 : Cond.static arraycopyName ∈ Ts) (hw4 : Cond.initialized "java/lang/System" ∈ Ts) (hR1 : ∀ (l : Launch) (R : Room) (cs : Nat → ClassId) (D : va_G) (ox : Nat → Nat) (A : Nat → Prop) (call : ECall), CO l R cs D ox A call → 1 ≤ R.frames ∧ 260 ≤ R.locals) : ev_Ok cc nL hh own Ts Tn Tq cl isI CO pc (a_copy 0) := by
  intro p l e R s m args below meth c Q D cs ox A al0 k0 n0 call kont f hs o hs' cx hI hC hR hT hpc h hk
  obtain ⟨pc', lo, st⟩ := f
  cases hpc
  obtain ⟨⟨hx, hb, hml, hown, hts⟩, ⟨hKK, hA, hNw, hZU, hZS, hTq, hNc⟩, hEx, hRc, hRs⟩ := cx
  have h : (a_copy 0) call kont (pc', lo, st) hs = some (o, hs') := h
  match st, h with
  | .int n :: .int dp :: .ref b :: .int sp :: .ref a :: st, h =>
    unfold a_copy at h
    dsimp only at h
    cases hqa : hs.1[a]? with
    | none => rw [hqa] at h; cases h
    | some ea =>
      cases hqb : hs.1[b]? with
      | none => rw [hqa, hqb] at h; obtain ⟨ka | ka, va⟩ := ea <;> cases h
      | some eb =>
        rw [hqa, hqb] at h
        obtain ⟨ka, v0⟩ := ea
        obtain ⟨kb, v1⟩ := eb
        cases ka with
        | inr _ => cases h
        | inl t0 =>
         cases kb with
         | inr _ => cases h
         | inl t1 =>
          dsimp only at h
          cases hb2 : ((Nat.beq t0 0 && Nat.beq t1 0) && ((decide (sp = 0) && decide (dp = 0)) && (decide (0 ≤ n) && (Nat.ble n.toNatClampNeg v0.length && (Nat.ble n.toNatClampNeg v1.length && (((v0.take n.toNatClampNeg).all (ev_fit 0)) && Nat.ble ((st.map fun v => v.category).sum) 8)))))) with
          | false => rw [hb2] at h; cases h
          | true =>
            rw [hb2] at h
            simp only [Bool.and_eq_true, decide_eq_true_eq] at hb2
            obtain ⟨⟨q1, q2⟩, ⟨q3, q4⟩, q5, q6, q7, q8, q9⟩ := hb2
            cases Nat.eq_of_beq_eq_true q1
            cases Nat.eq_of_beq_eq_true q2
            subst q3
            subst q4
            have n6 := Nat.le_of_ble_eq_true q6
            have n7 := Nat.le_of_ble_eq_true q7
            have n9 := Nat.le_of_ble_eq_true q9
            have hn : ¬ n < 0 := Int32.not_lt.mpr q5
            obtain ⟨r1, r2⟩ := hR1 l R cs D ox A call hC
            dsimp only [cond_true] at h
            intro h1 h2
            obtain ⟨g1, g2, g3⟩ := hk _ _ h h1 h2
            refine ⟨g1, g2, fun al H locs ls w wl wv hl => ?_⟩
            have hea := ev_w_get (cs := cs) (ox := ox) w.2.1 hqa
            have heb := ev_w_get (cs := cs) (ox := ox) w.2.1 hqb
            have hlen : (v0.take n.toNatClampNeg ++ v1.drop n.toNatClampNeg).length = v1.length := by rw [List.length_append, List.length_take, List.length_drop]; omega
            have hset : (ev_w cs ox al hs.1).set b (al.getD b 0, .inl (cs 0, v1.length, .inl (va_cpy (fun j => ev_i (v0.getD j (.int 0))) (fun j => ev_i (v1.getD j (.int 0))) (0 : Int32).toNatClampNeg (0 : Int32).toNatClampNeg n.toNatClampNeg))) = ev_w cs ox al (hs.1.set b (.inl 0, v0.take n.toNatClampNeg ++ v1.drop n.toNatClampNeg)) := by
              rw [← ev_w_set w.2.1 b (.inl 0, v0.take n.toNatClampNeg ++ v1.drop n.toNatClampNeg)]
              rw [show (0 : Int32).toNatClampNeg = 0 from rfl, ev_cpy v0 v1 n.toNatClampNeg n6]
              show _ = (ev_w cs ox al hs.1).set b (al.getD b 0, .inl (cs 0, ((v0.take n.toNatClampNeg ++ v1.drop n.toNatClampNeg).length, _)))
              rw [hlen]
              rfl
            refine va_copyi hx hb (hml.trans hl.1.symm) hown (hts _ hw1) (hts _ hw2) (hts _ hw3) (hts _ hw4) hKK w.2.2.1 w.2.2.2.1 w.2.2.2.2.1 a b 0 0 (n0 := v0.length) (n1 := v1.length) (f := fun j => ev_i (v0.getD j (.int 0))) (g := fun j => ev_i (v1.getD j (.int 0))) (ty := .int) hea heb rfl rfl rfl (by decide) (by decide) hn (by rw [show (0 : Int32).toNatClampNeg = 0 from rfl]; omega) (by rw [show (0 : Int32).toNatClampNeg = 0 from rfl]; omega) (fun i hi => ?_) r1 (by
              have hcs : ((st.map (ev_rv ox al)).map fun v => v.category).sum = (st.map fun v => v.category).sum := ev_cats ox al st
              have hnw : nativeFrameWords "java/lang/System" "arraycopy" 5 ≤ 200 := by decide +kernel
              omega) d (fun H1 locs1 hP1 hD1 hS1 => ?_)
            · have hz : v0[i]? = some v0[i] := List.getElem?_eq_getElem (by omega)
              have hm : v0[i] ∈ v0.take n.toNatClampNeg := List.mem_of_getElem? (i := i) (by rw [List.getElem?_take_of_lt hi]; exact hz)
              have hf := List.all_eq_true.mp q8 _ hm
              rw [show (0 : Int32).toNatClampNeg = 0 from rfl, Nat.zero_add, List.getD_eq_getElem?_getD, hz]
              show fits .int (.int (ev_i v0[i])) = true
              cases hv : v0[i] with
              | int x => rw [hv] at hf; exact (ev_fit_spec ox al .int (v := .int x) hf).2
              | _ => rw [hv] at hf; cases hf
            · rw [hset] at hP1 hD1
              exact g3 al H1 locs1 ls ⟨w.1, by rw [List.length_set]; exact w.2.1, hP1, hD1, hS1, ev_wf_set w.2.2.2.2.2 (fun v hv => by
                rcases List.mem_append.mp hv with z | z
                · exact w.2.2.2.2.2 _ (List.mem_of_getElem? hqa) v (List.mem_of_mem_take z)
                · exact w.2.2.2.2.2 _ (List.mem_of_getElem? hqb) v (List.mem_of_mem_drop z))⟩ (by dsimp only; rw [List.length_set]; exact wl) (by dsimp only; rw [List.length_set]; exact ev_tl (ev_tl (ev_tl (ev_tl (ev_tl wv))))) hl
theorem ok_copyz {index : Nat} (d : decode cc pc = .ok (.invokestatic index, 3)) (hw1 : Cond.methodLink own index arraycopyName ∈ Ts) (hw2 : Cond.native arraycopyName ∈ Ts) (hw3 : Cond.static arraycopyName ∈ Ts) (hw4 : Cond.initialized "java/lang/System" ∈ Ts) (hR1 : ∀ (l : Launch) (R : Room) (cs : Nat → ClassId) (D : va_G) (ox : Nat → Nat) (A : Nat → Prop) (call : ECall), CO l R cs D ox A call → 1 ≤ R.frames ∧ 260 ≤ R.locals) : ev_Ok cc nL hh own Ts Tn Tq cl isI CO pc (a_copy 1) := by
  intro p l e R s m args below meth c Q D cs ox A al0 k0 n0 call kont f hs o hs' cx hI hC hR hT hpc h hk
  obtain ⟨pc', lo, st⟩ := f
  cases hpc
  obtain ⟨⟨hx, hb, hml, hown, hts⟩, ⟨hKK, hA, hNw, hZU, hZS, hTq, hNc⟩, hEx, hRc, hRs⟩ := cx
  have h : (a_copy 1) call kont (pc', lo, st) hs = some (o, hs') := h
  match st, h with
  | .int n :: .int dp :: .ref b :: .int sp :: .ref a :: st, h =>
    unfold a_copy at h
    dsimp only at h
    cases hqa : hs.1[a]? with
    | none => rw [hqa] at h; cases h
    | some ea =>
      cases hqb : hs.1[b]? with
      | none => rw [hqa, hqb] at h; obtain ⟨ka | ka, va⟩ := ea <;> cases h
      | some eb =>
        rw [hqa, hqb] at h
        obtain ⟨ka, v0⟩ := ea
        obtain ⟨kb, v1⟩ := eb
        cases ka with
        | inr _ => cases h
        | inl t0 =>
         cases kb with
         | inr _ => cases h
         | inl t1 =>
          dsimp only at h
          cases hb2 : ((Nat.beq t0 1 && Nat.beq t1 1) && ((decide (sp = 0) && decide (dp = 0)) && (decide (0 ≤ n) && (Nat.ble n.toNatClampNeg v0.length && (Nat.ble n.toNatClampNeg v1.length && (((v0.take n.toNatClampNeg).all (ev_fit 1)) && Nat.ble ((st.map fun v => v.category).sum) 8)))))) with
          | false => rw [hb2] at h; cases h
          | true =>
            rw [hb2] at h
            simp only [Bool.and_eq_true, decide_eq_true_eq] at hb2
            obtain ⟨⟨q1, q2⟩, ⟨q3, q4⟩, q5, q6, q7, q8, q9⟩ := hb2
            cases Nat.eq_of_beq_eq_true q1
            cases Nat.eq_of_beq_eq_true q2
            subst q3
            subst q4
            have n6 := Nat.le_of_ble_eq_true q6
            have n7 := Nat.le_of_ble_eq_true q7
            have n9 := Nat.le_of_ble_eq_true q9
            have hn : ¬ n < 0 := Int32.not_lt.mpr q5
            obtain ⟨r1, r2⟩ := hR1 l R cs D ox A call hC
            dsimp only [cond_true] at h
            intro h1 h2
            obtain ⟨g1, g2, g3⟩ := hk _ _ h h1 h2
            refine ⟨g1, g2, fun al H locs ls w wl wv hl => ?_⟩
            have hea := ev_w_get (cs := cs) (ox := ox) w.2.1 hqa
            have heb := ev_w_get (cs := cs) (ox := ox) w.2.1 hqb
            have hlen : (v0.take n.toNatClampNeg ++ v1.drop n.toNatClampNeg).length = v1.length := by rw [List.length_append, List.length_take, List.length_drop]; omega
            have hset : (ev_w cs ox al hs.1).set b (al.getD b 0, .inl (cs 1, v1.length, .inl (va_cpy (fun j => ev_i (v0.getD j (.int 0))) (fun j => ev_i (v1.getD j (.int 0))) (0 : Int32).toNatClampNeg (0 : Int32).toNatClampNeg n.toNatClampNeg))) = ev_w cs ox al (hs.1.set b (.inl 1, v0.take n.toNatClampNeg ++ v1.drop n.toNatClampNeg)) := by
              rw [← ev_w_set w.2.1 b (.inl 1, v0.take n.toNatClampNeg ++ v1.drop n.toNatClampNeg)]
              rw [show (0 : Int32).toNatClampNeg = 0 from rfl, ev_cpy v0 v1 n.toNatClampNeg n6]
              show _ = (ev_w cs ox al hs.1).set b (al.getD b 0, .inl (cs 1, ((v0.take n.toNatClampNeg ++ v1.drop n.toNatClampNeg).length, _)))
              rw [hlen]
              rfl
            refine va_copyi hx hb (hml.trans hl.1.symm) hown (hts _ hw1) (hts _ hw2) (hts _ hw3) (hts _ hw4) hKK w.2.2.1 w.2.2.2.1 w.2.2.2.2.1 a b 1 1 (n0 := v0.length) (n1 := v1.length) (f := fun j => ev_i (v0.getD j (.int 0))) (g := fun j => ev_i (v1.getD j (.int 0))) (ty := .boolean) hea heb rfl rfl rfl (by decide) (by decide) hn (by rw [show (0 : Int32).toNatClampNeg = 0 from rfl]; omega) (by rw [show (0 : Int32).toNatClampNeg = 0 from rfl]; omega) (fun i hi => ?_) r1 (by
              have hcs : ((st.map (ev_rv ox al)).map fun v => v.category).sum = (st.map fun v => v.category).sum := ev_cats ox al st
              have hnw : nativeFrameWords "java/lang/System" "arraycopy" 5 ≤ 200 := by decide +kernel
              omega) d (fun H1 locs1 hP1 hD1 hS1 => ?_)
            · have hz : v0[i]? = some v0[i] := List.getElem?_eq_getElem (by omega)
              have hm : v0[i] ∈ v0.take n.toNatClampNeg := List.mem_of_getElem? (i := i) (by rw [List.getElem?_take_of_lt hi]; exact hz)
              have hf := List.all_eq_true.mp q8 _ hm
              rw [show (0 : Int32).toNatClampNeg = 0 from rfl, Nat.zero_add, List.getD_eq_getElem?_getD, hz]
              show fits .boolean (.int (ev_i v0[i])) = true
              cases hv : v0[i] with
              | int x => rw [hv] at hf; exact (ev_fit_spec ox al .boolean (v := .int x) hf).2
              | _ => rw [hv] at hf; cases hf
            · rw [hset] at hP1 hD1
              exact g3 al H1 locs1 ls ⟨w.1, by rw [List.length_set]; exact w.2.1, hP1, hD1, hS1, ev_wf_set w.2.2.2.2.2 (fun v hv => by
                rcases List.mem_append.mp hv with z | z
                · exact w.2.2.2.2.2 _ (List.mem_of_getElem? hqa) v (List.mem_of_mem_take z)
                · exact w.2.2.2.2.2 _ (List.mem_of_getElem? hqb) v (List.mem_of_mem_drop z))⟩ (by dsimp only; rw [List.length_set]; exact wl) (by dsimp only; rw [List.length_set]; exact ev_tl (ev_tl (ev_tl (ev_tl (ev_tl wv))))) hl
theorem ok_ireturn (d : decode cc pc = .ok (.ireturn, 1)) : ev_Ok cc nL hh own Ts Tn Tq cl isI CO pc a_iret := by
  intro p l e R s m args below meth c Q D cs ox A al0 k0 n0 call kont f hs o hs' cx hI hC hR hT hpc h hk
  obtain ⟨pc', lo, st⟩ := f
  cases hpc
  obtain ⟨⟨hx, hb, hml, hown, hts⟩, ⟨hKK, hA, hNw, hZU, hZS, hTq, hNc⟩, hEx, hRc, hRs⟩ := cx
  match st, h with
  | [.int x], h =>
    cases h
    intro h1 h2
    refine ⟨Nat.le_refl _, Nat.le_refl _, fun al H locs ls w wl wv hl => ?_⟩
    exact hR _ rfl al H locs ls pc' .ireturn w wv rfl d h1 h2
theorem ok_lreturn (d : decode cc pc = .ok (.lreturn, 1)) : ev_Ok cc nL hh own Ts Tn Tq cl isI CO pc a_lret := by
  intro p l e R s m args below meth c Q D cs ox A al0 k0 n0 call kont f hs o hs' cx hI hC hR hT hpc h hk
  obtain ⟨pc', lo, st⟩ := f
  cases hpc
  obtain ⟨⟨hx, hb, hml, hown, hts⟩, ⟨hKK, hA, hNw, hZU, hZS, hTq, hNc⟩, hEx, hRc, hRs⟩ := cx
  match st, h with
  | [.long x], h =>
    cases h
    intro h1 h2
    refine ⟨Nat.le_refl _, Nat.le_refl _, fun al H locs ls w wl wv hl => ?_⟩
    exact hR _ rfl al H locs ls pc' .lreturn w wv rfl d h1 h2
theorem ok_dreturn (d : decode cc pc = .ok (.dreturn, 1)) : ev_Ok cc nL hh own Ts Tn Tq cl isI CO pc a_dret := by
  intro p l e R s m args below meth c Q D cs ox A al0 k0 n0 call kont f hs o hs' cx hI hC hR hT hpc h hk
  obtain ⟨pc', lo, st⟩ := f
  cases hpc
  obtain ⟨⟨hx, hb, hml, hown, hts⟩, ⟨hKK, hA, hNw, hZU, hZS, hTq, hNc⟩, hEx, hRc, hRs⟩ := cx
  match st, h with
  | [.double x], h =>
    cases h
    intro h1 h2
    refine ⟨Nat.le_refl _, Nat.le_refl _, fun al H locs ls w wl wv hl => ?_⟩
    exact hR _ rfl al H locs ls pc' .dreturn w wv rfl d h1 h2
theorem ok_areturn (d : decode cc pc = .ok (.areturn, 1)) : ev_Ok cc nL hh own Ts Tn Tq cl isI CO pc a_aret := by
  intro p l e R s m args below meth c Q D cs ox A al0 k0 n0 call kont f hs o hs' cx hI hC hR hT hpc h hk
  obtain ⟨pc', lo, st⟩ := f
  cases hpc
  obtain ⟨⟨hx, hb, hml, hown, hts⟩, ⟨hKK, hA, hNw, hZU, hZS, hTq, hNc⟩, hEx, hRc, hRs⟩ := cx
  match st, h with
  | [.ref x], h =>
    cases h
    intro h1 h2
    refine ⟨Nat.le_refl _, Nat.le_refl _, fun al H locs ls w wl wv hl => ?_⟩
    exact hR _ rfl al H locs ls pc' .areturn w wv rfl d h1 h2
theorem ok_vreturn (d : decode cc pc = .ok (.return_, 1)) : ev_Ok cc nL hh own Ts Tn Tq cl isI CO pc a_vret := by
  intro p l e R s m args below meth c Q D cs ox A al0 k0 n0 call kont f hs o hs' cx hI hC hR hT hpc h hk
  obtain ⟨pc', lo, st⟩ := f
  cases hpc
  obtain ⟨⟨hx, hb, hml, hown, hts⟩, ⟨hKK, hA, hNw, hZU, hZS, hTq, hNc⟩, hEx, hRc, hRs⟩ := cx
  match st, h with
  | [], h =>
    cases h
    intro h1 h2
    refine ⟨Nat.le_refl _, Nat.le_refl _, fun al H locs ls w wl wv hl => ?_⟩
    exact hR _ rfl al H locs ls pc' .return_ w wv rfl d h1 h2
theorem ok_tsw {dflt lo hi : Int} {offs : Array Int} {len t : Nat} {ts : List Nat} (d : decode cc pc = .ok (.tableswitch dflt lo hi offs, len)) (hts2 : ts.map (fun z : Nat => (z : Int) - (pc : Int)) = offs.toList) (hlen : (offs.size : Int) = hi - lo + 1) (ht : (pc : Int) + dflt = (t : Int)) : ev_Ok cc nL hh own Ts Tn Tq cl isI CO pc (a_tsw lo ts t) := by
  intro p l e R s m args below meth c Q D cs ox A al0 k0 n0 call kont f hs o hs' cx hI hC hR hT hpc h hk
  obtain ⟨pc', lo_, st⟩ := f
  cases hpc
  obtain ⟨⟨hx, hb, hml, hown, hts⟩, ⟨hKK, hA, hNw, hZU, hZS, hTq, hNc⟩, hEx, hRc, hRs⟩ := cx
  match st, h with
  | .int x :: st, h =>
    have h : (if x.toInt < lo then kont (t, lo_, st) hs else match ts[(x.toInt - lo).toNat]? with | some t1 => kont (t1, lo_, st) hs | none => kont (t, lo_, st) hs) = some (o, hs') := h
    by_cases q : x.toInt < lo
    · rw [if_pos q] at h
      intro h1 h2
      obtain ⟨g1, g2, g3⟩ := hk _ _ h h1 h2
      refine ⟨g1, g2, fun al H locs ls w wl wv hl => ?_⟩
      exact lv_tableOut hx hb d (Or.inl q) ht (g3 al H locs ls w wl (ev_tl wv) hl)
    · rw [if_neg q] at h
      cases hq : ts[(x.toInt - lo).toNat]? with
      | none =>
        rw [hq] at h
        intro h1 h2
        obtain ⟨g1, g2, g3⟩ := hk _ _ h h1 h2
        refine ⟨g1, g2, fun al H locs ls w wl wv hl => ?_⟩
        have hl5 : offs.size = ts.length := by rw [← Array.length_toList, ← hts2, List.length_map]
        have hl6 := List.getElem?_eq_none_iff.mp hq
        exact lv_tableOut hx hb d (Or.inr (by omega)) ht (g3 al H locs ls w wl (ev_tl wv) hl)
      | some t1 =>
        rw [hq] at h
        have ho : offs[(x.toInt - lo).toNat]? = some ((t1 : Int) - (pc' : Int)) := by
          rw [← Array.getElem?_toList, ← hts2, List.getElem?_map, hq]; rfl
        have hl5 : offs.size = ts.length := by rw [← Array.length_toList, ← hts2, List.length_map]
        have hl6 := (List.getElem?_eq_some_iff.mp hq).1
        intro h1 h2
        obtain ⟨g1, g2, g3⟩ := hk _ _ h h1 h2
        refine ⟨g1, g2, fun al H locs ls w wl wv hl => ?_⟩
        exact lv_tableIn hx hb d q (by omega) ho (by omega) (g3 al H locs ls w wl (ev_tl wv) hl)
end EVO
end
section
/-! EV: calls, whole methods, the depth. -/
/-- a method: its name, its code, its locals, what it returns, its table of handlers -/
abbrev EM : Type := Nat → MethodName × ByteArray × Nat × Option FieldType × List (Nat × Nat × Nat × Nat)
def ev_fr (d : Nat) : Nat := d + 8
def ev_lw (d : Nat) : Nat := 64 * d + 200
def ev_cw (mt : EM) (y : Nat) : Cond := match (mt y).2.2.2.2 with
  | [] => Cond.code (mt y).1 (mt y).2.1 (mt y).2.2.1 (mt y).2.2.2.1
  | hh => Cond.codeWith (mt y).1 (mt y).2.1 (mt y).2.2.1 (mt y).2.2.2.1 hh
def ev_ws (mt : EM) (Tg : List Cond) (y : Nat) : List Cond := ev_cw mt y :: Tg
theorem ev_ws0 {mt : EM} {Tg : List Cond} {y : Nat} (h : (mt y).2.2.2.2 = []) : ev_ws mt Tg y = Cond.code (mt y).1 (mt y).2.1 (mt y).2.2.1 (mt y).2.2.2.1 :: Tg := by
  unfold ev_ws ev_cw
  rw [h]
theorem ev_ws1 {mt : EM} {Tg : List Cond} {y : Nat} (h : (mt y).2.2.2.2 ≠ []) : ev_ws mt Tg y = Cond.codeWith (mt y).1 (mt y).2.1 (mt y).2.2.1 (mt y).2.2.2.1 (mt y).2.2.2.2 :: Tg := by
  unfold ev_ws ev_cw
  cases hq : (mt y).2.2.2.2 with
  | nil => exact absurd hq h
  | cons a b => rfl
def ev_Pc (D : va_G) (cl : List vw_C) (cs : Nat → ClassId) (ox : Nat → Nat) (A : Nat → Prop) (Tn : List Cond) (Tq : EQ) (al : List Nat) (h : List EC) (av : List Value) : Array Value → State → Prop := fun v U =>
  v = (av.map (ev_rv ox al)).toArray ∧ ev_Sr D cl cs Tn Tq A U ∧ al.length = h.length ∧ va_P D cl (ev_w cs ox al h) U.heap ∧ va_D A (ev_w cs ox al h) ∧ ev_wf h ∧ ∀ v ∈ av, ev_ok h.length v
def ev_Qc (D : va_G) (cl : List vw_C) (cs : Nat → ClassId) (ox : Nat → Nat) (A : Nat → Prop) (al : List Nat) (v : Option Value) (h : List EC) : Array Value → State → Outcome → State → Prop := fun _ st o t =>
  (∃ al' : List Nat, al <+: al' ∧ o = .returned (v.map (ev_rv ox al')) ∧ al'.length = h.length ∧ va_P D cl (ev_w cs ox al' h) t.heap ∧ va_D A (ev_w cs ox al' h) ∧ ev_wf h ∧ ∀ w ∈ v.toList, ev_ok h.length w) ∧ va_F A st t
def ev_XC (D : va_G) (cl : List vw_C) (cs : Nat → ClassId) (ox : Nat → Nat) (A : Nat → Prop) (al : List Nat) (E : String) (h : List EC) : String → State → State → Prop := fun E' st t =>
  E' = E ∧ (∃ al' : List Nat, al <+: al' ∧ al'.length = h.length ∧ va_P D cl (ev_w cs ox al' h) t.heap ∧ va_D A (ev_w cs ox al' h) ∧ ev_wf h) ∧ va_F A st t
def ev_Me (l : Launch) (mt : EM) (Tg Tn : List Cond) (Tq : EQ) (cl : List vw_C) (y F LW : Nat) (D : va_G) (cs : Nat → ClassId) (ox : Nat → Nat) (A : Nat → Prop) (al : List Nat) (hs : EH) (av : List Value) (o : Option Value ⊕ String) (hs' : EH) : Prop := match o with
  | .inl v => Met l (mt y).1 (ev_ws mt Tg y) { frames := F, cells := hs'.2.1 - hs.2.1, slots := hs'.2.2 - hs.2.2, locals := LW } (ev_Pc D cl cs ox A Tn Tq al hs.1 av) (ev_Qc D cl cs ox A al v hs'.1) (hs'.2.1 - hs.2.1) (hs'.2.2 - hs.2.2) A
  | .inr E => vx_Met l (mt y).1 (ev_ws mt Tg y) { frames := F, cells := hs'.2.1 - hs.2.1, slots := hs'.2.2 - hs.2.2, locals := LW } (ev_Pc D cl cs ox A Tn Tq al hs.1 av) (fun _ _ _ _ => False) (ev_XC D cl cs ox A al E hs'.1) (hs'.2.1 - hs.2.1) (hs'.2.2 - hs.2.2) A
/-- what holds of the callees, at depth d -/
def ev_CO (mt : EM) (Tg Tn : List Cond) (Tq : EQ) (cl : List vw_C) (d : Nat) : Launch → Room → (Nat → ClassId) → va_G → (Nat → Nat) → (Nat → Prop) → ECall → Prop := fun l R cs D ox A call =>
  ev_fr d + 1 ≤ R.frames ∧ 64 + ev_lw d ≤ R.locals ∧ ∀ (y : Nat) (av : List Value) (hs : EH) (o : Option Value ⊕ String) (hs' : EH), call y av hs = some (o, hs') →
    hs.2.1 ≤ hs'.2.1 ∧ hs.2.2 ≤ hs'.2.2 ∧ ∀ al : List Nat, ev_Me l mt Tg Tn Tq cl y (ev_fr d) (ev_lw d) D cs ox A al hs av o hs'
theorem ev_CO.small {mt : EM} {Tg Tn : List Cond} {Tq : EQ} {cl : List vw_C} {d : Nat} : ∀ (l : Launch) (R : Room) (cs : Nat → ClassId) (D : va_G) (ox : Nat → Nat) (A : Nat → Prop) (call : ECall), ev_CO mt Tg Tn Tq cl d l R cs D ox A call → 1 ≤ R.frames ∧ 20 ≤ R.locals := by
  intro l R cs D ox A call h
  obtain ⟨h1, h2, -⟩ := h
  unfold ev_fr at h1
  unfold ev_lw at h2
  exact ⟨by omega, by omega⟩
/-- the surroundings at a callee's start -/
theorem ev_Sr.to {D : va_G} {cl : List vw_C} {cs : Nat → ClassId} {Tn : List Cond} {Tq : EQ} {A : Nat → Prop} {s U : State} {H : Heap} {locs : List Loc} (h : ev_Sr D cl cs Tn Tq A s) (hH : U.heap = H) (hW : s.WarmedH U.vm) (hS : va_S A s.heap H locs) : ev_Sr D cl cs Tn Tq A U := by
  obtain ⟨h1, h2, h3, h4, h5, h6, h7⟩ := h
  have hq : ∀ a : Nat, a < s.heap.size → ¬ A a → U.heap[a]? = s.heap[a]? := fun a z1 z2 => by rw [hH]; exact hS.2.1 a z1 z2
  refine ⟨va_K.moved hW.alike h1, fun q hq => h2 q (Nat.le_trans hS.1 (by rw [← hH]; exact hq)), fun w hw => ?_, vx_Zq.kept (vx_Zq.moved hW.alike h4) hq, vx_Zq.kept (vx_Zq.moved hW.alike h5) hq, fun q hq => ?_, fun q hq => va_Nc.moved hW.alike (h7 q hq)⟩
  · obtain ⟨n1, n2⟩ := h3 w hw
    refine ⟨n1, ?_⟩
    cases w with
    | fieldLinkNest a i b n d hh => exact va_Nw.warmF hW n2
    | methodLinkNest a i x hh => exact va_Nw.warmM hW n2
    | declares x => exact va_Nw.warmD hW n2
    | castable a b => exact va_Nw.warmC hW n2
    | _ => cases n1
  · obtain ⟨sa, z⟩ := h6 q hq
    exact ⟨sa, vk_R.warm hW z⟩
theorem ev_Sr.same {D : va_G} {cl : List vw_C} {cs : Nat → ClassId} {Tn : List Cond} {Tq : EQ} {A : Nat → Prop} {s U : State} (h : ev_Sr D cl cs Tn Tq A s) (hH : U.heap = s.heap) (hv : U.vm = s.vm) : ev_Sr D cl cs Tn Tq A U := by
  obtain ⟨h1, h2, h3, h4, h5, h6, h7⟩ := h
  have ha : s.vm.Alike U.vm := by rw [hv]; exact Vm.Alike.refl _
  refine ⟨va_K.moved ha h1, fun q hq => h2 q (by rw [← hH]; exact hq), fun w hw => ?_, by rw [hH]; exact vx_Zq.moved ha h4, by rw [hH]; exact vx_Zq.moved ha h5, fun q hq => ?_, fun q hq => va_Nc.moved ha (h7 q hq)⟩
  · obtain ⟨n1, n2⟩ := h3 w hw
    exact ⟨n1, va_Nw.same (ev_nestw_on n1) hv.symm n2⟩
  · obtain ⟨sa, z⟩ := h6 q hq
    exact ⟨sa, vk_R.same hv z⟩
theorem ev_Pc.blind {D : va_G} {cl : List vw_C} {cs : Nat → ClassId} {ox : Nat → Nat} {A : Nat → Prop} {Tn : List Cond} {Tq : EQ} {al : List Nat} {h : List EC} {av : List Value} : FrameBlind (ev_Pc D cl cs ox A Tn Tq al h av) := by
  intro a U g mk q
  obtain ⟨q1, q2, q3⟩ := q
  exact ⟨q1, q2.same (U := U.calling g mk a) rfl rfl, q3⟩
section EVC
variable {p : Program} {l : Launch} {e : Env} {R : Room} {s : State} {m : MethodId} {args : Array Value} {below : List Frame} {meth : Method} {c : Code} {H : Heap} {locs : List Loc} {cells slots : Nat} {Q : State → Prop}
variable {D : va_G} {cl : List vw_C} {cs : Nat → ClassId} {ox : Nat → Nat} {A : Nat → Prop} {al : List Nat} {pc : Nat} {ls : Array Slot} {st0 rest : List Value} {mc ms : Nat} {a : Array Value}
theorem ev_pre {Tn : List Cond} {Tq : EQ} {al0 : List Nat} {h : List EC} {av : List Value} (hs : ev_Sr D cl cs Tn Tq A s) (w : ev_Wd D cl cs ox A s.heap al0 al h H locs) (hv : ∀ v ∈ av, ev_ok h.length v) : PreS s H (ev_Pc D cl cs ox A Tn Tq al h av) (av.map (ev_rv ox al)) :=
  ⟨ev_Pc.blind, fun U hU hW => ⟨rfl, hs.to hU hW w.2.2.2.2.1, w.2.1, by rw [hU]; exact w.2.2.1, w.2.2.2.1, w.2.2.2.2.2, hv⟩⟩
theorem ev_after {v : Option Value} {h : List EC} (hr : va_Run p l e R s m args below meth c H locs cells slots mc ms (F0 m pc ls st0) rest (ev_Qc D cl cs ox A al v h a) A) (hS : va_S A s.heap H locs)
    (kk : ∀ (al' : List Nat) (H1 : Heap) (locs1 : List Loc), al <+: al' → al'.length = h.length → va_P D cl (ev_w cs ox al' h) H1 → va_D A (ev_w cs ox al' h) → va_S A s.heap H1 locs1 → ev_wf h → (∀ w ∈ v.toList, ev_ok h.length w) →
      W p l e R s m args below meth c H1 locs1 (cells + mc) (slots + ms) Q (F0 m (pc + 3) ls ((v.map (ev_rv ox al')).toList ++ rest))) : W p l e R s m args below meth c H locs cells slots Q (F0 m pc ls st0) := by
  intro T hT X
  obtain ⟨v', st₀, t, T', L, h0, X', hL, e1, e2, ⟨⟨al', q1, q2, q3, q4, q5, q6, q7⟩, hz, hk⟩, st⟩ := hr T hT X
  cases q2
  rw [h0] at hz hk
  obtain ⟨t2, a1, b1⟩ := kk al' T'.heap (locs ++ L) q1 q3 (by rw [e1]; exact q4) q5 ⟨Nat.le_trans hS.1 (by rw [e1]; exact hz), fun q h1 h2 => by rw [e1, hk q (Nat.lt_of_lt_of_le h1 hS.1) h2]; exact hS.2.1 q h1 h2, fun q hq => by
      rcases List.mem_append.mp hq with h | h
      · exact hS.2.2 q h
      · exact hL q h⟩ q6 q7 T' rfl X'
  exact ⟨t2, st t2 a1, b1⟩
theorem ev_afterX {E : String} {h : List EC} (hr : vx_Run p l e R s m args below meth c H locs cells slots mc ms (F0 m pc ls st0) rest (fun _ _ _ => False) (ev_XC D cl cs ox A al E h) A) (hS : va_S A s.heap H locs)
    (kk : ∀ (al' : List Nat) (H1 : Heap) (locs1 : List Loc) (ce : Cell) (q9 : Addr), al <+: al' → al'.length = h.length → va_P D cl (ev_w cs ox al' h) H1 → va_D A (ev_w cs ox al' h) → va_S A s.heap H1 locs1 → ev_wf h → H1[q9]? = some ce → ce.vm = .none → s.vm.findClass E = some ce.cls →
      vx_W p l e R s m args below meth c H1 locs1 (cells + mc) (slots + ms) Q (F0 m pc ls rest) q9) : W p l e R s m args below meth c H locs cells slots Q (F0 m pc ls st0) := by
  intro T hT X
  rcases hr T hT X with ⟨v', st₀, t, T', L, h0, X', hL, e1, e2, q, st⟩ | ⟨q9, st₀, t, T', L, E', ce, h0, X', hL, e1, e2, ⟨rfl, ⟨al', q1, q3, q4, q5, q6⟩, hz, hk⟩, hce, hcv, hcl, st⟩
  · exact q.elim
  · rw [h0] at hz hk
    obtain ⟨t2, a1, b1⟩ := kk al' T'.heap (locs ++ L) ce q9 q1 q3 (by rw [e1]; exact q4) q5 ⟨Nat.le_trans hS.1 (by rw [e1]; exact hz), fun q h1 h2 => by rw [e1, hk q (Nat.lt_of_lt_of_le h1 hS.1) h2]; exact hS.2.1 q h1 h2, fun q hq => by
      rcases List.mem_append.mp hq with h | h
      · exact hS.2.2 q h
      · exact hL q h⟩ q6 (by rw [e1]; exact hce) hcv hcl T' rfl X'
    exact ⟨t2, st.trans a1, b1⟩
end EVC
/-- is the first argument an object of class c? -/
def ev_recv (ci : Option Nat) (av : List Value) (h : List EC) : Bool := match ci with
  | none => true
  | some c => match av with
    | .ref b :: _ => (match h[b]? with
      | some (.inr c', _) => Nat.beq c' c
      | _ => false)
    | _ => false
/-- a call of method y with N values (its object, if there is one, among them); thr: what it throws goes on -/
def a_inv (thr : Bool) (y N : Nat) (ci : Option Nat) : EA := fun call k f hs =>
  bif Nat.ble N f.2.2.length && (Nat.ble (((f.2.2.drop N).map fun v => v.category).sum) 8 && ev_recv ci (f.2.2.take N).reverse hs.1) then
    match call y (f.2.2.take N).reverse hs with
    | some (.inl v, h1) => k (f.1 + 3, f.2.1, v.toList ++ f.2.2.drop N) h1
    | some (.inr E, h1) => bif thr then some (.inr E, h1) else none
    | none => none
  else none
/-- one instruction's way of calling y: given the callee's contract, the call runs -/
def ev_Run (thr : Bool) (cc : ByteArray) (nL : Nat) (hh : List (Nat × Nat × Nat × Nat)) (own : String) (Ts Tn : List Cond) (Tq : EQ) (cl : List vw_C) (mt : EM) (y N : Nat) (ci : Option Nat) (pc : Nat) : Prop :=
  ∀ (p : Program) (l : Launch) (e : Env) (R : Room) (s : State) (m : MethodId) (args : Array Value) (below : List Frame) (meth : Method) (c : Code) (D : va_G) (cs : Nat → ClassId) (A : Nat → Prop) (k0 n0 ck cn : Nat),
    ev_Cx p R s m args c cc nL hh own Ts Tn Tq D cl cs A k0 n0 ck cn →
    ∀ (H : Heap) (locs : List Loc) (ls : Array Slot) (cells slots mc ms : Nat) (Pc : Array Value → State → Prop) (Qc : Array Value → State → Outcome → State → Prop) (XC : String → State → State → Prop) (rm : Room) (av rest : List Value),
      av.length = N → ls.size = nL → (rest.map fun v => v.category).sum ≤ 8 → rm.cells = mc → rm.slots = ms → rm.frames + 1 ≤ R.frames → 64 + rm.locals ≤ R.locals → PreS s H Pc av →
      (∀ c, ci = some c → ∃ (b : Nat) (as : List Value) (q : vw_C) (cell : Cell), av = .ref b :: as ∧ cl[c]? = some q ∧ H[b]? = some cell ∧ cell.vm.isStatics = false ∧ s.vm.findClass q.1 = some cell.cls) →
      cells + mc ≤ R.cells ∧ slots + ms ≤ R.slots →
      (Met l (mt y).1 (ev_ws mt Ts y) rm Pc Qc mc ms A → va_Run p l e R s m args below meth c H locs cells slots mc ms (F0 m pc ls (av.reverse ++ rest)) rest (Qc av.toArray) A) ∧
      (thr = true → vx_Met l (mt y).1 (ev_ws mt Ts y) rm Pc Qc XC mc ms A → vx_Run p l e R s m args below meth c H locs cells slots mc ms (F0 m pc ls (av.reverse ++ rest)) rest (Qc av.toArray) XC A)
theorem ok_inv {cc : ByteArray} {nL : Nat} {hh : List (Nat × Nat × Nat × Nat)} {own : String} {Ts Tn : List Cond} {Tq : EQ} {cl : List vw_C} {isI : Bool} {mt : EM} {d pc y N : Nat} {ci : Option Nat} {thr : Bool} (hrun : ev_Run thr cc nL hh own Ts Tn Tq cl mt y N ci pc) :
    ev_Ok cc nL hh own Ts Tn Tq cl isI (ev_CO mt Ts Tn Tq cl d) pc (a_inv thr y N ci) := by
  intro p l e R s m args below meth c Q D cs ox A al0 k0 n0 call kont f hs o hs' cx hI hC hR hT hpc h hk
  obtain ⟨pc', lo, st⟩ := f
  cases hpc
  have h : (bif Nat.ble N st.length && (Nat.ble (((st.drop N).map fun v => v.category).sum) 8 && ev_recv ci (st.take N).reverse hs.1) then
    (match call y (st.take N).reverse hs with
    | some (.inl v, h1) => kont (pc' + 3, lo, v.toList ++ st.drop N) h1
    | some (.inr E, h1) => bif thr then some (.inr E, h1) else none
    | none => none) else none) = some (o, hs') := h
  cases hb : (Nat.ble N st.length && (Nat.ble (((st.drop N).map fun v => v.category).sum) 8 && ev_recv ci (st.take N).reverse hs.1)) with
  | false => rw [hb] at h; cases h
  | true =>
    rw [hb] at h
    dsimp only [cond_true] at h
    obtain ⟨b1, b2⟩ := Bool.and_eq_true_iff.mp hb
    obtain ⟨b2, b3⟩ := Bool.and_eq_true_iff.mp b2
    have n1 : N ≤ st.length := Nat.le_of_ble_eq_true b1
    have n2 : ((st.drop N).map fun v => v.category).sum ≤ 8 := Nat.le_of_ble_eq_true b2
    obtain ⟨r1, r2, hM⟩ := hC
    have hst : ∀ al : List Nat, st.map (ev_rv ox al) = ((st.take N).reverse.map (ev_rv ox al)).reverse ++ (st.drop N).map (ev_rv ox al) := fun al => by
      rw [List.map_reverse, List.reverse_reverse, ← List.map_append, List.take_append_drop]
    have hlen : (st.take N).reverse.length = N := by rw [List.length_reverse, List.length_take]; omega
    have hrecv : ∀ (al : List Nat) (H : Heap), al.length = hs.1.length → va_P D cl (ev_w cs ox al hs.1) H → ∀ c, ci = some c → ∃ (b : Nat) (as : List Value) (q : vw_C) (cell : Cell), (st.take N).reverse.map (ev_rv ox al) = .ref b :: as ∧ cl[c]? = some q ∧ H[b]? = some cell ∧ cell.vm.isStatics = false ∧ s.vm.findClass q.1 = some cell.cls := by
      intro al H hn hP c0 hc0
      subst hc0
      unfold ev_recv at b3
      match hav : (st.take N).reverse, b3 with
      | .ref b :: as, b3 =>
        dsimp only at b3
        cases hq : hs.1[b]? with
        | none => rw [hq] at b3; cases b3
        | some e0 =>
          rw [hq] at b3
          obtain ⟨t0, fs⟩ := e0
          cases t0 with
          | inl t => cases b3
          | inr c' =>
            cases Nat.eq_of_beq_eq_true b3
            have he := ev_w_get (cs := cs) (ox := ox) hn hq
            obtain ⟨r, h1, -⟩ := hP b _ he
            obtain ⟨cell, z1, z2, z3⟩ := va_recv cx.2.1.1 hP h1 he
            exact ⟨al.getD b 0, as.map (ev_rv ox al), r, cell, rfl, h1, z1, z2, z3⟩
    cases hq : call y (st.take N).reverse hs with
    | none => rw [hq] at h; cases h
    | some z =>
      rw [hq] at h
      obtain ⟨z, h1⟩ := z
      obtain ⟨m1, m2, m3⟩ := hM _ _ _ _ _ hq
      cases z with
      | inl v =>
        dsimp only at h
        intro k1 k2
        obtain ⟨g1, g2, g3⟩ := hk _ _ h (Nat.le_trans k1 m1) (Nat.le_trans k2 m2)
        refine ⟨Nat.le_trans m1 g1, Nat.le_trans m2 g2, fun al H locs ls w wl wv hl => ?_⟩
        have hM3 : Met l (mt y).1 (ev_ws mt Ts y) _ _ _ _ _ A := m3 al
        have hcl := cx.2.2.2
        have hr := (hrun p l e R s m args below meth c D cs A k0 n0 _ _ cx H locs ls (hs.2.1 - k0) (hs.2.2 - n0) (h1.2.1 - hs.2.1) (h1.2.2 - hs.2.2) _ _ (fun _ _ _ => False) _ ((st.take N).reverse.map (ev_rv ox al)) ((st.drop N).map (ev_rv ox al)) (by rw [List.length_map]; exact hlen) hl.1 (by rw [ev_cats]; exact n2) rfl rfl r1 r2
          (ev_pre cx.2.1 w (fun v hv => wv v (List.mem_of_mem_take (List.mem_reverse.mp hv)))) (hrecv al H w.2.1 w.2.2.1) (by omega)).1 hM3
        show W p l e R s m args below meth c H locs (hs.2.1 - k0) (hs.2.2 - n0) Q (F0 m pc' ls (st.map (ev_rv ox al)))
        rw [hst al]
        refine ev_after hr w.2.2.2.2.1 (fun al' H1 locs1 q1 q2 q3 q4 q5 q6 q7 => ?_)
        obtain ⟨be, rfl⟩ := q1
        have hmono : hs.1.length ≤ h1.1.length := by rw [← w.2.1, ← q2, List.length_append]; exact Nat.le_add_right _ _
        have k3 := g3 (al ++ be) H1 locs1 ls ⟨List.IsPrefix.trans w.1 (List.prefix_append _ _), q2, q3, q4, q5, q6⟩ (fun q hq => ev_ok_mono hmono (wl q hq)) (fun v' hv' => by
          rcases List.mem_append.mp hv' with z | z
          · exact q7 v' z
          · exact ev_ok_mono hmono (wv v' (List.mem_of_mem_drop z))) (by rw [ev_loc_app w.2.1 wl]; exact hl)
        rw [show h1.2.1 - k0 = hs.2.1 - k0 + (h1.2.1 - hs.2.1) by omega, show h1.2.2 - n0 = hs.2.2 - n0 + (h1.2.2 - hs.2.2) by omega, List.map_append, ev_stk_app w.2.1 (fun v hv => wv v (List.mem_of_mem_drop hv))] at k3
        have hvl : (v.map (ev_rv ox (al ++ be))).toList = v.toList.map (ev_rv ox (al ++ be)) := by cases v <;> rfl
        rw [hvl]
        exact k3
      | inr E =>
        dsimp only at h
        cases ht : thr with
        | false => rw [ht] at h; cases h
        | true =>
          rw [ht] at h
          cases h
          intro k1 k2
          refine ⟨m1, m2, fun al H locs ls w wl wv hl => ?_⟩
          have hM3 : vx_Met l (mt y).1 (ev_ws mt Ts y) _ _ _ _ _ _ A := m3 al
          have hr := (hrun p l e R s m args below meth c D cs A k0 n0 _ _ cx H locs ls (hs.2.1 - k0) (hs.2.2 - n0) (hs'.2.1 - hs.2.1) (hs'.2.2 - hs.2.2) _ _ _ _ ((st.take N).reverse.map (ev_rv ox al)) ((st.drop N).map (ev_rv ox al)) (by rw [List.length_map]; exact hlen) hl.1 (by rw [ev_cats]; exact n2) rfl rfl r1 r2
            (ev_pre cx.2.1 w (fun v hv => wv v (List.mem_of_mem_take (List.mem_reverse.mp hv)))) (hrecv al H w.2.1 w.2.2.1) (by have := cx.2.2.2; omega)).2 ht hM3
          obtain ⟨t1, t2, t3, Qc, XC, rfl, t5⟩ := hT E rfl
          show W p l e R s m args below meth c H locs (hs.2.1 - k0) (hs.2.2 - n0) _ (F0 m pc' ls (st.map (ev_rv ox al)))
          rw [hst al]
          refine ev_afterX hr w.2.2.2.2.1 (fun al' H1 locs1 ce q9 q1 q2 q3 q4 q5 q6 hce hcv hcl => ?_)
          exact vx_out (fun x hx => (t3 x hx).elim) t2 hce hcv hcl (fun t ht ha => t5 al' H1 locs1 ⟨List.IsPrefix.trans w.1 q1, q2, q3, q4, q5, q6⟩ t ht ha) q5.2.2 (by omega) (by omega)

/-- the words of a method's own list are good ones, and the callee's code stands among them -/
theorem ev_good {mt : EM} {Ts : List Cond} {y : Nat} (hz : (mt y).2.2.2.2 = []) (hg : ∀ w ∈ Ts, goodWord w = true) (hc : Cond.code (mt y).1 (mt y).2.1 (mt y).2.2.1 (mt y).2.2.2.1 ∈ Ts) : GoodIn Ts (ev_ws mt Ts y) := by
  intro w hw
  rw [ev_ws0 hz] at hw
  rcases List.mem_cons.mp hw with rfl | hw
  · exact ⟨hc, good_of_word (hg _ hc)⟩
  · exact ⟨hw, good_of_word (hg _ hw)⟩
theorem ev_nlen {n : Nat} {y : MethodName} (h : (parseMethodDescriptor y.desc).map (fun d => d.parameters.length) = some n) : ∀ sig, parseMethodDescriptor y.desc = some sig → n = sig.parameters.length := by
  intro sig hs
  rw [hs] at h
  exact (Option.some.inj h).symm
section EVK
variable {cc : ByteArray} {nL : Nat} {hh : List (Nat × Nat × Nat × Nat)} {own : String} {Ts Tn : List Cond} {Tq : EQ} {cl : List vw_C} {mt : EM} {y n ci index pc : Nat} {q : vw_C} {host : String}
theorem ev_cb {R : Room} {s : State} {args : Array Value} {rm : Room} {mc ms : Nat} (hts : ∀ w ∈ Ts, w.before args s = true) (hz : (mt y).2.2.2.2 = []) (hg : ∀ w ∈ Ts, goodWord w = true) (hc : Cond.code (mt y).1 (mt y).2.1 (mt y).2.2.1 (mt y).2.2.2.1 ∈ Ts) (hini : Cond.initialized (mt y).1.cls ∈ Ts) (hl : Cond.methodLink own index (mt y).1 ∈ Ts)
    (hd : (mt y).1.cls ≠ "java/lang/invoke/MethodHandle" ∧ (mt y).1.cls ≠ "java/lang/invoke/VarHandle" ∧ (parseMethodDescriptor (mt y).1.desc).map (fun d => d.parameters.length) = some n) (hL : (mt y).2.2.1 ≤ 45) (h1 : rm.cells = mc) (h2 : rm.slots = ms) (h3 : rm.frames + 1 ≤ R.frames) (h4 : 64 + rm.locals ≤ R.locals) :
    CallB R s args own index (mt y).1 (mt y).2.1 (mt y).2.2.1 (mt y).2.2.2.1 (ev_ws mt Ts y) rm mc ms n :=
  ⟨h1, h2, h3, by omega, pay_in hts (ev_good hz hg hc), by rw [ev_ws0 hz]; exact List.mem_cons_self, hts _ hc, hts _ hini, ⟨hd.1, hd.2.1⟩, ev_nlen hd.2.2, hts _ hl⟩
theorem run_V (d : decode cc pc = .ok (.invokevirtual index, 3)) (hz : (mt y).2.2.2.2 = []) (hg : ∀ w ∈ Ts, goodWord w = true) (hc : Cond.code (mt y).1 (mt y).2.1 (mt y).2.2.1 (mt y).2.2.2.1 ∈ Ts) (hini : Cond.initialized (mt y).1.cls ∈ Ts) (hl : Cond.methodLink own index (mt y).1 ∈ Ts) (hi : Cond.instanceMethod (mt y).1 ∈ Ts) (hse : Cond.selects (mt y).1.cls (mt y).1 (mt y).1 ∈ Ts)
    (hd : (mt y).1.cls ≠ "java/lang/invoke/MethodHandle" ∧ (mt y).1.cls ≠ "java/lang/invoke/VarHandle" ∧ (parseMethodDescriptor (mt y).1.desc).map (fun d => d.parameters.length) = some n) (hL : (mt y).2.2.1 ≤ 45) (hcl : cl[ci]? = some q) (hq : q.1 = (mt y).1.cls) :
    ev_Run true cc nL hh own Ts Tn Tq cl mt y (n + 1) (some ci) pc := by
  intro p l e R s m args below meth c D cs A k0 n0 ck cn cx H locs ls cells slots mc ms Pc Qc XC rm av rest hN hls h8 h1 h2 h3 h4 hp hr hf
  obtain ⟨b, as, q', cell, rfl, z1, z2, z3, z4⟩ := hr ci rfl
  cases Option.some.inj (z1.symm.trans hcl)
  rw [hq] at z4
  have cw : CallW R s args own (mt y).1.cls index (mt y).1 (mt y).2.1 (mt y).2.2.1 (mt y).2.2.2.1 (ev_ws mt Ts y) rm mc ms n := ⟨ev_cb cx.1.2.2.2.2 hz hg hc hini hl hd hL h1 h2 h3 h4, cx.1.2.2.2.2 _ hi, cx.1.2.2.2.2 _ hse⟩
  have hp2 : PreV s H (mt y).1.cls b Pc as := ⟨hp.1, ⟨cell, z2, z3, z4⟩, hp.2⟩
  have hst : ((Value.ref b :: as).reverse ++ rest) = as.reverse ++ .ref b :: rest := by rw [List.reverse_cons, List.append_assoc]; rfl
  have hn : as.length = n := Nat.succ.inj hN
  rw [hst]
  exact ⟨fun hM => va_runV cx.1 hM cw hp2 rfl hn hls rfl (lv_room h8) d hf, fun _ hM => vx_runV cx.1 hM cw hp2 rfl hn hls rfl (lv_room h8) d hf⟩
theorem run_S (d : decode cc pc = .ok (.invokestatic index, 3)) (hz : (mt y).2.2.2.2 = []) (hg : ∀ w ∈ Ts, goodWord w = true) (hc : Cond.code (mt y).1 (mt y).2.1 (mt y).2.2.1 (mt y).2.2.2.1 ∈ Ts) (hini : Cond.initialized (mt y).1.cls ∈ Ts) (hl : Cond.methodLink own index (mt y).1 ∈ Ts) (hi : Cond.static (mt y).1 ∈ Ts)
    (hd : (mt y).1.cls ≠ "java/lang/invoke/MethodHandle" ∧ (mt y).1.cls ≠ "java/lang/invoke/VarHandle" ∧ (parseMethodDescriptor (mt y).1.desc).map (fun d => d.parameters.length) = some n) (hL : (mt y).2.2.1 ≤ 45) :
    ev_Run true cc nL hh own Ts Tn Tq cl mt y n none pc := by
  intro p l e R s m args below meth c D cs A k0 n0 ck cn cx H locs ls cells slots mc ms Pc Qc XC rm av rest hN hls h8 h1 h2 h3 h4 hp hr hf
  have cw := ev_cb (R := R) (rm := rm) (mc := mc) (ms := ms) (s := s) (args := args) cx.1.2.2.2.2 hz hg hc hini hl hd hL h1 h2 h3 h4
  exact ⟨fun hM => va_runS cx.1 hM ⟨cw, cx.1.2.2.2.2 _ hi⟩ hp rfl hN hls rfl (lv_room h8) d hf, fun _ hM => vx_runS cx.1 hM ⟨cw, cx.1.2.2.2.2 _ hi⟩ hp rfl hN hls rfl (lv_room h8) d hf⟩
theorem run_I (d : decode cc pc = .ok (.invokespecial index, 3)) (hz : (mt y).2.2.2.2 = []) (hg : ∀ w ∈ Ts, goodWord w = true) (hc : Cond.code (mt y).1 (mt y).2.1 (mt y).2.2.1 (mt y).2.2.2.1 ∈ Ts) (hini : Cond.initialized (mt y).1.cls ∈ Ts) (hl : Cond.methodLink own index (mt y).1 ∈ Ts) (hi : Cond.instanceMethod (mt y).1 ∈ Ts) (hy : (mt y).1.name = "<init>") (hre : (mt y).2.2.2.1 = none)
    (hd : (mt y).1.cls ≠ "java/lang/invoke/MethodHandle" ∧ (mt y).1.cls ≠ "java/lang/invoke/VarHandle" ∧ (parseMethodDescriptor (mt y).1.desc).map (fun d => d.parameters.length) = some n) (hL : (mt y).2.2.1 ≤ 45) :
    ev_Run false cc nL hh own Ts Tn Tq cl mt y (n + 1) (some ci) pc := by
  intro p l e R s m args below meth c D cs A k0 n0 ck cn cx H locs ls cells slots mc ms Pc Qc XC rm av rest hN hls h8 h1 h2 h3 h4 hp hr hf
  obtain ⟨b, as, q', cell, rfl, z1, z2, z3, z4⟩ := hr ci rfl
  have cw := ev_cb (R := R) (rm := rm) (mc := mc) (ms := ms) (s := s) (args := args) cx.1.2.2.2.2 hz hg hc hini hl hd hL h1 h2 h3 h4
  rw [hre] at cw
  have hst : ((Value.ref b :: as).reverse ++ rest) = as.reverse ++ .ref b :: rest := by rw [List.reverse_cons, List.append_assoc]; rfl
  have hn : as.length = n := Nat.succ.inj hN
  rw [hst]
  exact ⟨fun hM => va_runI cx.1 hM ⟨cw, hy, cx.1.2.2.2.2 _ hi⟩ hp rfl hn hls rfl (lv_room h8) d hf, fun h => by cases h⟩
theorem ev_cn {R : Room} {s : State} {args : Array Value} {rm : Room} {mc ms : Nat} (hts : ∀ w ∈ Ts, w.before args s = true) (hNw : ∀ w ∈ Tn, ev_nestw w = true ∧ va_Nw w s) (hz : (mt y).2.2.2.2 = []) (hg : ∀ w ∈ Ts, goodWord w = true) (hc : Cond.code (mt y).1 (mt y).2.1 (mt y).2.2.1 (mt y).2.2.2.1 ∈ Ts) (hini : Cond.initialized (mt y).1.cls ∈ Ts) (hl : Cond.methodLinkNest own index (mt y).1 host ∈ Tn)
    (hd : (mt y).1.cls ≠ "java/lang/invoke/MethodHandle" ∧ (mt y).1.cls ≠ "java/lang/invoke/VarHandle" ∧ (parseMethodDescriptor (mt y).1.desc).map (fun d => d.parameters.length) = some n) (hL : (mt y).2.2.1 ≤ 45) (h1 : rm.cells = mc) (h2 : rm.slots = ms) (h3 : rm.frames + 1 ≤ R.frames) (h4 : 64 + rm.locals ≤ R.locals) :
    va_CN R s args own index (mt y).1 host (mt y).2.1 (mt y).2.2.1 (mt y).2.2.2.1 (ev_ws mt Ts y) rm mc ms n :=
  ⟨⟨h1, h2, h3, by omega, pay_in hts (ev_good hz hg hc), by rw [ev_ws0 hz]; exact List.mem_cons_self⟩, hts _ hc, hts _ hini, ⟨hd.1, hd.2.1⟩, ev_nlen hd.2.2, va_Nw.use rfl (hNw _ hl).2⟩
theorem run_VN (d : decode cc pc = .ok (.invokevirtual index, 3)) (hz : (mt y).2.2.2.2 = []) (hg : ∀ w ∈ Ts, goodWord w = true) (hc : Cond.code (mt y).1 (mt y).2.1 (mt y).2.2.1 (mt y).2.2.2.1 ∈ Ts) (hini : Cond.initialized (mt y).1.cls ∈ Ts) (hl : Cond.methodLinkNest own index (mt y).1 host ∈ Tn) (hi : Cond.instanceMethod (mt y).1 ∈ Ts) (hse : Cond.selects (mt y).1.cls (mt y).1 (mt y).1 ∈ Ts)
    (hd : (mt y).1.cls ≠ "java/lang/invoke/MethodHandle" ∧ (mt y).1.cls ≠ "java/lang/invoke/VarHandle" ∧ (parseMethodDescriptor (mt y).1.desc).map (fun d => d.parameters.length) = some n) (hL : (mt y).2.2.1 ≤ 45) (hcl : cl[ci]? = some q) (hq : q.1 = (mt y).1.cls) :
    ev_Run false cc nL hh own Ts Tn Tq cl mt y (n + 1) (some ci) pc := by
  intro p l e R s m args below meth c D cs A k0 n0 ck cn cx H locs ls cells slots mc ms Pc Qc XC rm av rest hN hls h8 h1 h2 h3 h4 hp hr hf
  obtain ⟨b, as, q', cell, rfl, z1, z2, z3, z4⟩ := hr ci rfl
  cases Option.some.inj (z1.symm.trans hcl)
  rw [hq] at z4
  have cw := ev_cn (R := R) (rm := rm) (mc := mc) (ms := ms) (s := s) (args := args) cx.1.2.2.2.2 cx.2.1.2.2.1 hz hg hc hini hl hd hL h1 h2 h3 h4
  have hp2 : PreV s H (mt y).1.cls b Pc as := ⟨hp.1, ⟨cell, z2, z3, z4⟩, hp.2⟩
  have hst : ((Value.ref b :: as).reverse ++ rest) = as.reverse ++ .ref b :: rest := by rw [List.reverse_cons, List.append_assoc]; rfl
  have hn : as.length = n := Nat.succ.inj hN
  rw [hst]
  exact ⟨fun hM => va_runVN cx.1 hM ⟨cw, cx.1.2.2.2.2 _ hi, cx.1.2.2.2.2 _ hse⟩ hp2 rfl hn hls rfl (lv_room h8) d hf, fun h => by cases h⟩
theorem run_SN (d : decode cc pc = .ok (.invokestatic index, 3)) (hz : (mt y).2.2.2.2 = []) (hg : ∀ w ∈ Ts, goodWord w = true) (hc : Cond.code (mt y).1 (mt y).2.1 (mt y).2.2.1 (mt y).2.2.2.1 ∈ Ts) (hini : Cond.initialized (mt y).1.cls ∈ Ts) (hl : Cond.methodLinkNest own index (mt y).1 host ∈ Tn) (hi : Cond.static (mt y).1 ∈ Ts)
    (hd : (mt y).1.cls ≠ "java/lang/invoke/MethodHandle" ∧ (mt y).1.cls ≠ "java/lang/invoke/VarHandle" ∧ (parseMethodDescriptor (mt y).1.desc).map (fun d => d.parameters.length) = some n) (hL : (mt y).2.2.1 ≤ 45) :
    ev_Run false cc nL hh own Ts Tn Tq cl mt y n none pc := by
  intro p l e R s m args below meth c D cs A k0 n0 ck cn cx H locs ls cells slots mc ms Pc Qc XC rm av rest hN hls h8 h1 h2 h3 h4 hp hr hf
  have cw := ev_cn (R := R) (rm := rm) (mc := mc) (ms := ms) (s := s) (args := args) cx.1.2.2.2.2 cx.2.1.2.2.1 hz hg hc hini hl hd hL h1 h2 h3 h4
  exact ⟨fun hM => va_runSN cx.1 hM ⟨cw, cx.1.2.2.2.2 _ hi, trivial⟩ hp rfl hN hls rfl (lv_room h8) d hf, fun h => by cases h⟩
theorem run_IN (d : decode cc pc = .ok (.invokespecial index, 3)) (hz : (mt y).2.2.2.2 = []) (hg : ∀ w ∈ Ts, goodWord w = true) (hc : Cond.code (mt y).1 (mt y).2.1 (mt y).2.2.1 (mt y).2.2.2.1 ∈ Ts) (hini : Cond.initialized (mt y).1.cls ∈ Ts) (hl : Cond.methodLinkNest own index (mt y).1 host ∈ Tn) (hi : Cond.instanceMethod (mt y).1 ∈ Ts) (hy : (mt y).1.name = "<init>") (hre : (mt y).2.2.2.1 = none)
    (hd : (mt y).1.cls ≠ "java/lang/invoke/MethodHandle" ∧ (mt y).1.cls ≠ "java/lang/invoke/VarHandle" ∧ (parseMethodDescriptor (mt y).1.desc).map (fun d => d.parameters.length) = some n) (hL : (mt y).2.2.1 ≤ 45) :
    ev_Run false cc nL hh own Ts Tn Tq cl mt y (n + 1) (some ci) pc := by
  intro p l e R s m args below meth c D cs A k0 n0 ck cn cx H locs ls cells slots mc ms Pc Qc XC rm av rest hN hls h8 h1 h2 h3 h4 hp hr hf
  obtain ⟨b, as, q', cell, rfl, z1, z2, z3, z4⟩ := hr ci rfl
  have cw := ev_cn (R := R) (rm := rm) (mc := mc) (ms := ms) (s := s) (args := args) cx.1.2.2.2.2 cx.2.1.2.2.1 hz hg hc hini hl hd hL h1 h2 h3 h4
  rw [hre] at cw
  have hst : ((Value.ref b :: as).reverse ++ rest) = as.reverse ++ .ref b :: rest := by rw [List.reverse_cons, List.append_assoc]; rfl
  have hn : as.length = n := Nat.succ.inj hN
  rw [hst]
  exact ⟨fun hM => va_runIN cx.1 hM ⟨cw, hy, cx.1.2.2.2.2 _ hi⟩ hp rfl hn hls rfl (lv_room h8) d hf, fun h => by cases h⟩
end EVK
/-! a method's code: a tree over the program counters; its run, with fuel -/
def a_no : EA := fun _ _ _ _ => none
def t_n (k : Nat) (a b : Nat → EA) : Nat → EA := fun pc => bif Nat.ble k pc then b pc else a pc
def t_l (k : Nat) (a : EA) : Nat → EA := fun pc => bif Nat.beq pc k then a else a_no
noncomputable def ev_run (code : Nat → EA) (call : ECall) (n : Nat) : EK := Nat.rec (motive := fun _ => EK) (fun _ _ => none) (fun _ ih f hs => code f.1 call ih f hs) n
section EVT
variable {cc : ByteArray} {nL : Nat} {hh : List (Nat × Nat × Nat × Nat)} {own : String} {Ts Tn : List Cond} {Tq : EQ} {cl : List vw_C} {isI : Bool} {CO : Launch → Room → (Nat → ClassId) → va_G → (Nat → Nat) → (Nat → Prop) → ECall → Prop}
theorem ok_no {pc : Nat} : ev_Ok cc nL hh own Ts Tn Tq cl isI CO pc a_no := by
  intro p l e R s m args below meth c Q D cs ox A al0 k0 n0 call kont f hs o hs' cx hI hC hR hT hpc h hk
  cases h
theorem ok_t_l {k : Nat} {a : EA} (h : ev_Ok cc nL hh own Ts Tn Tq cl isI CO k a) : ∀ pc, ev_Ok cc nL hh own Ts Tn Tq cl isI CO pc (t_l k a pc) := by
  intro pc
  unfold t_l
  cases hq : Nat.beq pc k with
  | true => cases Nat.eq_of_beq_eq_true hq; exact h
  | false => exact ok_no
theorem ok_t_n {k : Nat} {a b : Nat → EA} (ha : ∀ pc, ev_Ok cc nL hh own Ts Tn Tq cl isI CO pc (a pc)) (hb : ∀ pc, ev_Ok cc nL hh own Ts Tn Tq cl isI CO pc (b pc)) : ∀ pc, ev_Ok cc nL hh own Ts Tn Tq cl isI CO pc (t_n k a b pc) := by
  intro pc
  unfold t_n
  cases hq : Nat.ble k pc with
  | true => exact hb pc
  | false => exact ha pc
theorem ev_run_ok {code : Nat → EA} (hcode : ∀ pc, ev_Ok cc nL hh own Ts Tn Tq cl isI CO pc (code pc))
    {p : Program} {l : Launch} {e : Env} {R : Room} {s : State} {m : MethodId} {args : Array Value} {below : List Frame} {meth : Method} {c : Code} {Q : State → Prop} {D : va_G} {cs : Nat → ClassId} {ox : Nat → Nat} {A : Nat → Prop} {al0 : List Nat} {k0 n0 : Nat} {call : ECall} {o : Option Value ⊕ String} {hs' : EH}
    (cx : ev_Cx p R s m args c cc nL hh own Ts Tn Tq D cl cs A k0 n0 hs'.2.1 hs'.2.2) (hI : isI = true → meth.name = "<init>") (hC : CO l R cs D ox A call)
    (hR : ∀ v, o = .inl v → ev_Rt p l e R s m args below meth c Q cc D cl cs ox A al0 k0 n0 v hs') (hT : ∀ E, o = .inr E → ev_Th l s args below meth c Q D cl cs ox A al0 k0 n0 E hs') :
    ∀ (n : Nat) (f : EF) (hs : EH), ev_run code call n f hs = some (o, hs') → ev_G p l e R s m args below meth c Q D cl cs ox A al0 nL k0 n0 hs'.2.1 hs'.2.2 f hs := by
  intro n
  induction n with
  | zero => intro f hs h; cases h
  | succ n ih =>
    intro f hs h
    exact hcode f.1 p l e R s m args below meth c Q D cs ox A al0 k0 n0 call (ev_run code call n) f hs o hs' cx hI hC hR hT rfl h (fun f1 h1 h2 => ih f1 h1 h2)
end EVT
end
section
/-! EV: throws; a whole method's contract out of its run; the depth. -/
def a_throw (E : String) : EA := fun _ _ f hs => bif Nat.ble ((f.2.2.map fun v => v.category).sum) 8 then some (.inr E, hs.1, hs.2.1 + 1, hs.2.2 + 6) else none
theorem ok_throwS {cc : ByteArray} {nL : Nat} {hh : List (Nat × Nat × Nat × Nat)} {own : String} {Ts Tn : List Cond} {Tq : EQ} {cl : List vw_C} {isI : Bool} {mt : EM} {d pc ik is ic : Nat} {cls text : String} {names : List String}
    (d0 : decode cc pc = .ok (.new ik, 3)) (d3 : decode cc (pc + 3) = .ok (.dup, 1)) (d4 : decode cc (pc + 4) = .ok (.ldc is, 2)) (d6 : decode cc (pc + 6) = .ok (.invokespecial ic, 3)) (d9 : decode cc (pc + 9) = .ok (.athrow, 1))
    (hcls : Bundle.fit cls = true) (hnames : ∀ n ∈ names, Bundle.fit n = true) (hn : names.length ≤ 3) (hk : Cond.classLink own ik cls ∈ Ts) (hini : Cond.initialized cls ∈ Ts) (hstr : (own, is, text) ∈ Tq.1) (hat : ∀ w ∈ vx_atS own ic cls names, w ∈ Ts ∨ w ∈ Tn)
    (hgood : ∀ w ∈ Cond.classLink own ik cls :: Cond.initialized cls :: vx_atS own ic cls names, vx_ot w = true) : ev_Ok cc nL hh own Ts Tn Tq cl isI (ev_CO mt Ts Tn Tq cl d) pc (a_throw cls) := by
  intro p l e R s m args below meth c Q D cs ox A al0 k0 n0 call kont f hs o hs' cx hI hC hR hT hpc h hk2
  obtain ⟨pc', lo, st⟩ := f
  cases hpc
  have h : (bif Nat.ble ((st.map fun v => v.category).sum) 8 then some (Sum.inr (α := Option Value) cls, hs.1, hs.2.1 + 1, hs.2.2 + 6) else none) = some (o, hs') := h
  cases hb2 : Nat.ble ((st.map fun v => v.category).sum) 8 with
  | false => rw [hb2] at h; cases h
  | true =>
    rw [hb2] at h
    cases h
    obtain ⟨⟨hx, hb, hml, hown, hts⟩, ⟨hKK, hA, hNw, hZU, hZS, hTq, hNc⟩, hEx, hRc, hRs⟩ := cx
    obtain ⟨t1, t2, t3, Qc, XC, rfl, t5⟩ := hT cls rfl
    obtain ⟨sa, hsa⟩ := hTq _ hstr
    obtain ⟨r1, r2, -⟩ := hC
    unfold ev_fr at r1
    unfold ev_lw at r2
    have n8 : (st.map fun v => v.category).sum ≤ 8 := Nat.le_of_ble_eq_true hb2
    intro h1 h2
    dsimp only at hRc hRs
    refine ⟨Nat.le_succ _, Nat.le_add_right _ _, fun al H locs ls w wl wv hl => ?_⟩
    have n8' : ((st.map (ev_rv ox al)).map fun v => v.category).sum ≤ 8 := by rw [ev_cats]; exact n8
    show W p l e R s m args below meth c H locs (hs.2.1 - k0) (hs.2.2 - n0) _ (F0 m pc' ls (st.map (ev_rv ox al)))
    refine vx_throwS hx hb t1 hown hcls hnames (hts _ hk) (hts _ hini) hsa (fun w hw => ?_) hgood hZU hZS w.2.2.2.2.1 (hl.1.trans hml.symm) d0 d3 d4 d6 d9 (fun x hx => (t3 x hx).elim) (by omega) (by omega) (by omega) (by omega) t2 (fun t ha hz hq => ?_) w.2.2.2.2.1.2.2 (by dsimp only; omega) (by dsimp only; omega)
    · rcases hat w hw with z | z
      · exact hts w z
      · exact va_Nw.use (ev_nestw_on (hNw w z).1) (hNw w z).2
    · have hS' := w.2.2.2.2.1
      refine t5 al t.heap locs ⟨w.1, w.2.1, va_P.kept w.2.2.1 (fun k q hk => hq q.1 ((w.2.2.1 k q hk).lt)), w.2.2.2.1, ⟨Nat.le_trans hS'.1 hz, fun q q1 q2 => ?_, hS'.2.2⟩, w.2.2.2.2.2⟩ t rfl ha
      rw [hq q (Nat.lt_of_lt_of_le q1 hS'.1)]
      exact hS'.2.1 q q1 q2
theorem ok_throwSW {cc : ByteArray} {nL : Nat} {hh : List (Nat × Nat × Nat × Nat)} {own : String} {Ts Tn : List Cond} {Tq : EQ} {cl : List vw_C} {isI : Bool} {mt : EM} {d pc ik is ic : Nat} {cls text : String} {names : List String}
    (d0 : decode cc pc = .ok (.new ik, 3)) (d3 : decode cc (pc + 3) = .ok (.dup, 1)) (d4 : decode cc (pc + 4) = .ok (.ldc_w is, 3)) (d7 : decode cc (pc + 7) = .ok (.invokespecial ic, 3)) (d10 : decode cc (pc + 10) = .ok (.athrow, 1))
    (hcls : Bundle.fit cls = true) (hnames : ∀ n ∈ names, Bundle.fit n = true) (hn : names.length ≤ 3) (hk : Cond.classLink own ik cls ∈ Ts) (hini : Cond.initialized cls ∈ Ts) (hstr : (own, is, text) ∈ Tq.1) (hat : ∀ w ∈ vx_atS own ic cls names, w ∈ Ts ∨ w ∈ Tn)
    (hgood : ∀ w ∈ Cond.classLink own ik cls :: Cond.initialized cls :: vx_atS own ic cls names, vx_ot w = true) : ev_Ok cc nL hh own Ts Tn Tq cl isI (ev_CO mt Ts Tn Tq cl d) pc (a_throw cls) := by
  intro p l e R s m args below meth c Q D cs ox A al0 k0 n0 call kont f hs o hs' cx hI hC hR hT hpc h hk2
  obtain ⟨pc', lo, st⟩ := f
  cases hpc
  have h : (bif Nat.ble ((st.map fun v => v.category).sum) 8 then some (Sum.inr (α := Option Value) cls, hs.1, hs.2.1 + 1, hs.2.2 + 6) else none) = some (o, hs') := h
  cases hb2 : Nat.ble ((st.map fun v => v.category).sum) 8 with
  | false => rw [hb2] at h; cases h
  | true =>
    rw [hb2] at h
    cases h
    obtain ⟨⟨hx, hb, hml, hown, hts⟩, ⟨hKK, hA, hNw, hZU, hZS, hTq, hNc⟩, hEx, hRc, hRs⟩ := cx
    obtain ⟨t1, t2, t3, Qc, XC, rfl, t5⟩ := hT cls rfl
    obtain ⟨sa, hsa⟩ := hTq _ hstr
    obtain ⟨r1, r2, -⟩ := hC
    unfold ev_fr at r1
    unfold ev_lw at r2
    have n8 : (st.map fun v => v.category).sum ≤ 8 := Nat.le_of_ble_eq_true hb2
    intro h1 h2
    dsimp only at hRc hRs
    refine ⟨Nat.le_succ _, Nat.le_add_right _ _, fun al H locs ls w wl wv hl => ?_⟩
    have n8' : ((st.map (ev_rv ox al)).map fun v => v.category).sum ≤ 8 := by rw [ev_cats]; exact n8
    show W p l e R s m args below meth c H locs (hs.2.1 - k0) (hs.2.2 - n0) _ (F0 m pc' ls (st.map (ev_rv ox al)))
    refine vx_throwSW hx hb t1 hown hcls hnames (hts _ hk) (hts _ hini) hsa (fun w hw => ?_) hgood hZU hZS w.2.2.2.2.1 (hl.1.trans hml.symm) d0 d3 d4 d7 d10 (fun x hx => (t3 x hx).elim) (by omega) (by omega) (by omega) (by omega) t2 (fun t ha hz hq => ?_) w.2.2.2.2.1.2.2 (by dsimp only; omega) (by dsimp only; omega)
    · rcases hat w hw with z | z
      · exact hts w z
      · exact va_Nw.use (ev_nestw_on (hNw w z).1) (hNw w z).2
    · have hS' := w.2.2.2.2.1
      refine t5 al t.heap locs ⟨w.1, w.2.1, va_P.kept w.2.2.1 (fun k q hk => hq q.1 ((w.2.2.1 k q hk).lt)), w.2.2.2.1, ⟨Nat.le_trans hS'.1 hz, fun q q1 q2 => ?_, hS'.2.2⟩, w.2.2.2.2.2⟩ t rfl ha
      rw [hq q (Nat.lt_of_lt_of_le q1 hS'.1)]
      exact hS'.2.1 q q1 q2
/-- does the value fit what the method returns? -/
def ev_rok (ret : Option FieldType) (v : Option Value) : Bool := match ret, v with
  | none, none => true
  | some .int, some (.int _) => true
  | some .boolean, some (.int x) => decide (x = 0) || decide (x = 1)
  | some .long, some (.long _) => true
  | some .double, some (.double _) => true
  | some (.object _), some (.ref _) => true
  | some (.array _), some (.ref _) => true
  | _, _ => false
def ev_fin (ret : Option FieldType) (he : Bool) (hs : EH) (r : ER) : ER := match r with
  | some (.inl v, h1) => bif ev_rok ret v && (Nat.ble hs.2.1 h1.2.1 && Nat.ble hs.2.2 h1.2.2) then some (.inl v, h1) else none
  | some (.inr E, h1) => bif he && (Nat.ble hs.2.1 h1.2.1 && Nat.ble hs.2.2 h1.2.2) then some (.inr E, h1) else none
  | none => none
/-- calls to depth d: pg: the methods' codes; fu: the fuel of one run -/
noncomputable def ev_call (mt : EM) (pg : Nat → Nat → EA) (fu d : Nat) : ECall := Nat.rec (motive := fun _ => ECall) (fun _ _ _ => none) (fun _ ih y av hs =>
  bif Nat.ble ((av.map fun v => v.category).sum) (mt y).2.2.1 then ev_fin (mt y).2.2.2.1 (mt y).2.2.2.2.isEmpty hs (ev_run (pg y) ih fu (0, lv_args 0 av, []) hs) else none) d
theorem ev_fin_spec {ret : Option FieldType} {he : Bool} {hs : EH} {r : ER} {o : Option Value ⊕ String} {h1 : EH} (h : ev_fin ret he hs r = some (o, h1)) : r = some (o, h1) ∧ hs.2.1 ≤ h1.2.1 ∧ hs.2.2 ≤ h1.2.2 ∧ (∀ v, o = .inl v → ev_rok ret v = true) ∧ ∀ E, o = .inr E → he = true := by
  unfold ev_fin at h
  match r, h with
  | some (.inl v, h2), h =>
    dsimp only at h
    cases hb : (ev_rok ret v && (Nat.ble hs.2.1 h2.2.1 && Nat.ble hs.2.2 h2.2.2)) with
    | false => rw [hb] at h; cases h
    | true =>
      rw [hb] at h
      cases h
      obtain ⟨b1, b2⟩ := Bool.and_eq_true_iff.mp hb
      obtain ⟨b2, b3⟩ := Bool.and_eq_true_iff.mp b2
      exact ⟨rfl, Nat.le_of_ble_eq_true b2, Nat.le_of_ble_eq_true b3, fun v' hv' => (by cases hv'; exact b1), fun E hE => by cases hE⟩
  | some (.inr E, h2), h =>
    dsimp only at h
    cases hb : (he && (Nat.ble hs.2.1 h2.2.1 && Nat.ble hs.2.2 h2.2.2)) with
    | false => rw [hb] at h; cases h
    | true =>
      rw [hb] at h
      cases h
      obtain ⟨b1, b2⟩ := Bool.and_eq_true_iff.mp hb
      obtain ⟨b2, b3⟩ := Bool.and_eq_true_iff.mp b2
      exact ⟨rfl, Nat.le_of_ble_eq_true b2, Nat.le_of_ble_eq_true b3, fun v' hv' => (by cases hv'), fun E hE => b1⟩
theorem ev_sl_len : ∀ (vs : List Value), (lg_sl vs).length = (vs.map fun v => v.category).sum
  | [] => rfl
  | v :: vs => by
    unfold lg_sl
    rw [List.flatMap_cons, List.length_append, List.map_cons, List.sum_cons]
    have ih := ev_sl_len vs
    unfold lg_sl at ih
    rw [ih]
    congr 1
    cases v <;> rfl
theorem ev_args_map (ox : Nat → Nat) (al : List Nat) : ∀ (vs : List Value) (i : Nat), lv_args i (vs.map (ev_rv ox al)) = (lv_args i vs).map (fun q => (q.1, ev_rv ox al q.2))
  | [], i => rfl
  | v :: vs, i => by
    show (i, ev_rv ox al v) :: lv_args (if (ev_rv ox al v).category = 2 then i + 2 else i + 1) (vs.map (ev_rv ox al)) = (i, ev_rv ox al v) :: (lv_args (if v.category = 2 then i + 2 else i + 1) vs).map _
    rw [ev_rv_cat, ev_args_map ox al vs]
theorem ev_args_ok {n : Nat} : ∀ (vs : List Value) (i : Nat), (∀ v ∈ vs, ev_ok n v) → ∀ q ∈ lv_args i vs, ev_ok n q.2
  | [], i, _, q, hq => by cases hq
  | v :: vs, i, h, q, hq => by
    rcases List.mem_cons.mp hq with rfl | hq
    · exact ev_hd h
    · exact ev_args_ok vs _ (ev_tl h) q hq
section EVM
variable {l : Launch} {mt : EM} {Tg Tn : List Cond} {Tq : EQ} {cl : List vw_C} {y d : Nat} {D : va_G} {cs : Nat → ClassId} {ox : Nat → Nat} {A : Nat → Prop} {isI : Bool} {code : Nat → EA} {call : ECall} {fu : Nat}
/-- a frame that returns meets its contract's end -/
theorem ev_rt_met {p : Program} {e : Env} {R : Room} {s : State} {m : MethodId} {args : Array Value} {below : List Frame} {meth : Method} {c : Code} {cc : ByteArray} (hx : p.tables.exec = Jvm.exec) (hb : c.code = cc) (hlocks : meth.locks = false) {ret : Option FieldType} (hret : meth.sig.returnType = ret)
    {al : List Nat} {k0 n0 : Nat} {v : Option Value} {hs' : EH} (hv : ev_rok ret v = true) :
    ev_Rt p l e R s m args below meth c (MQ below (ev_Qc D cl cs ox A al v hs'.1) args s (hs'.2.1 - k0) (hs'.2.2 - n0) A) cc D cl cs ox A al k0 n0 v hs' := by
  intro al' H locs ls pc ig w wv hg hdg k1 k2
  have hq : ∀ t : State, t.heap = H → s.WarmedH t.vm → ev_Qc D cl cs ox A al v hs'.1 args s (.returned (v.map (ev_rv ox al'))) t := fun t ht hW =>
    ⟨⟨al', w.1, rfl, w.2.1, by rw [ht]; exact w.2.2.1, w.2.2.2.1, w.2.2.2.2.2, wv⟩, w.2.2.2.2.1.F ht⟩
  have hf : ∀ q ∈ locs, A q.base := w.2.2.2.2.1.2.2
  match ret, v, hv, hg, hret, hq with
  | none, none, hv, hg, hret, hq =>
    cases hg
    exact W.vret hx hb hret hq hf hdg
  | some .int, some (.int x), hv, hg, hret, hq =>
    cases hg
    exact W.zret hx hb hret rfl hq hf hdg
  | some .boolean, some (.int x), hv, hg, hret, hq =>
    cases hg
    refine W.zret hx hb hret ?_ hq hf hdg
    rcases Bool.or_eq_true_iff.mp hv with z | z
    · cases of_decide_eq_true z; rfl
    · cases of_decide_eq_true z; rfl
  | some .long, some (.long x), hv, hg, hret, hq =>
    cases hg
    exact W.lret hx hb hret hq hf hdg
  | some .double, some (.double x), hv, hg, hret, hq =>
    cases hg
    exact W.dret hx hb hret hq hf hdg
  | some (.object n), some (.ref x), hv, hg, hret, hq =>
    cases hg
    exact W.aret hx hb hret (Or.inl ⟨n, rfl⟩) (Or.inr ⟨_, rfl⟩) hq hf hdg
  | some (.array n), some (.ref x), hv, hg, hret, hq =>
    cases hg
    exact W.aret hx hb hret (Or.inr ⟨n, rfl⟩) (Or.inr ⟨_, rfl⟩) hq hf hdg
theorem ev_ofW {rm : Room} {Pc : Array Value → State → Prop} {Qc : Array Value → State → Outcome → State → Prop} {mc ms : Nat} {free : Addr → Prop} (hy : plainName (mt y).1.cls = true)
    (body : ∀ p e s m args below meth c s₁, BodyLoose p l (mt y).1 (headSpec (ev_ws mt Tg y) rm) (mt y).2.1 (mt y).2.2.1 (mt y).2.2.2.1 e s m args below meth c s₁ → c.maxLocals = (mt y).2.2.1 → Pc args s →
      W p l e (headSpec (ev_ws mt Tg y) rm).room s m args below meth c s.heap [] 0 0 (MQ below Qc args s mc ms free) (entryFrame m args (mt y).2.2.1)) : Met l (mt y).1 (ev_ws mt Tg y) rm Pc Qc mc ms free := by
  refine MetFree.of_bodyS (code := (mt y).2.1) (maxLocals := (mt y).2.2.1) (ret := (mt y).2.2.2.1) hy ?_ ?_
  · intro args s m h hn
    have hw : (ev_cw mt y).before args s = true := atoms_spec (ws := ev_ws mt Tg y) h _ List.mem_cons_self
    unfold ev_cw at hw
    cases hz : (mt y).2.2.2.2 with
    | nil =>
      rw [hz] at hw
      obtain ⟨meth, c, h1, h2, h3, h4, h5, h6, -, -⟩ := Cond.code_spec hn hw
      exact ⟨meth, c, h1, h2, h3, h4, h5, h6⟩
    | cons a b =>
      rw [hz] at hw
      obtain ⟨m9, meth, c, hn9, h1, h2, h3, h4, -, h5, h6, -⟩ := Cond.codeWith_spec hw
      cases hn.symm.trans hn9
      exact ⟨meth, c, h1, h2, h3, h4, h5, h6⟩
  · intro p e s m args below meth c s₁ B hml hP _
    have hh0 : s₁.heap = s.heap := by rw [B.state]; rfl
    obtain ⟨t, a1, o, b1, b2, b3⟩ := body p e s m args below meth c s₁ B hml hP s₁ hh0 (Stand.of_body B)
    exact ⟨t, o, a1, b1, b2, ⟨b3.1, b3.2⟩⟩
theorem ev_tab {rm : Room} {p : Program} {e : Env} {s s₁ : State} {m : MethodId} {args : Array Value} {below : List Frame} {meth : Method} {c : Code} {cc : ByteArray} {nL : Nat} {ret : Option FieldType} (B : BodyLoose p l (mt y).1 (headSpec (ev_ws mt Tg y) rm) cc nL ret e s m args below meth c s₁) :
    c.exceptionTable.toList.map (fun h => (h.startPc, h.endPc, h.handlerPc, h.catchType)) = (mt y).2.2.2.2 := by
  have hw : (ev_cw mt y).before args s = true := atoms_spec (ws := ev_ws mt Tg y) B.pre _ List.mem_cons_self
  unfold ev_cw at hw
  cases hz : (mt y).2.2.2.2 with
  | nil =>
    rw [hz] at hw
    obtain ⟨meth9, c9, h1, h2, -, -, -, -, h7, -⟩ := Cond.code_spec B.named hw
    cases Option.some.inj (h1.symm.trans B.method)
    cases Option.some.inj (h2.symm.trans (Stand.of_body B).code)
    rw [Array.isEmpty_iff.mp h7]
    rfl
  | cons a b =>
    rw [hz] at hw
    obtain ⟨m9, meth9, c9, hn9, h1, h2, -, -, h6, -⟩ := Cond.codeWith_spec hw
    cases Option.some.inj (hn9.symm.trans B.named)
    cases Option.some.inj (h1.symm.trans B.method)
    cases Option.some.inj (h2.symm.trans (Stand.of_body B).code)
    exact h6
theorem ev_met (hl : l.stackTraces = false) (hy : plainName (mt y).1.cls = true) (hI : isI = true → (mt y).1.name = "<init>")
    (hcode : ∀ pc, ev_Ok (mt y).2.1 (mt y).2.2.1 (mt y).2.2.2.2 (mt y).1.cls Tg Tn Tq cl isI (ev_CO mt Tg Tn Tq cl d) pc (code pc))
    (hcall : ∀ (R : Room), ev_fr d + 1 ≤ R.frames → 64 + ev_lw d ≤ R.locals → ev_CO mt Tg Tn Tq cl d l R cs D ox A call)
    {av : List Value} {hs hs' : EH} {o : Option Value ⊕ String} (hsl : Nat.ble ((av.map fun v => v.category).sum) (mt y).2.2.1 = true) (h : ev_fin (mt y).2.2.2.1 (mt y).2.2.2.2.isEmpty hs (ev_run code call fu (0, lv_args 0 av, []) hs) = some (o, hs')) (al : List Nat) :
    ev_Me l mt Tg Tn Tq cl y (ev_fr (d + 1)) (ev_lw (d + 1)) D cs ox A al hs av o hs' := by
  obtain ⟨hrun, m1, m2, hrok, hemp⟩ := ev_fin_spec h
  have hn : (lg_sl (av.map (ev_rv ox al))).length ≤ (mt y).2.2.1 := by rw [ev_sl_len, ev_cats]; exact Nat.le_of_ble_eq_true hsl
  cases o with
  | inl v =>
    show Met l _ _ _ _ _ _ _ A
    refine ev_ofW hy ?_
    intro p e s m args below meth c s₁ B hml hv
    obtain ⟨rfl, hsr, hal, hP, hD, hwf, hav⟩ := hv
    have hts := atoms_spec (ws := ev_ws mt Tg y) B.pre
    have hin : meth.name = (mt y).1.name := (name_of_methodNamed B.named B.method).1
    have hG := ev_run_ok hcode (p := p) (l := l) (e := e) (R := { frames := ev_fr (d + 1), cells := hs'.2.1 - hs.2.1, slots := hs'.2.2 - hs.2.2, locals := ev_lw (d + 1) }) (s := s) (m := m) (args := (av.map (ev_rv ox al)).toArray) (below := below) (meth := meth) (c := c) (Q := MQ below (ev_Qc D cl cs ox A al v hs'.1) (av.map (ev_rv ox al)).toArray s (hs'.2.1 - hs.2.1) (hs'.2.2 - hs.2.2) A) (D := D) (cs := cs) (ox := ox) (A := A) (al0 := al) (k0 := hs.2.1) (n0 := hs.2.2) (call := call) (o := .inl v) (hs' := hs')
      ⟨⟨B.exec, B.bytes, hml, findClass_of_methodNamed B.named, fun w hw => hts w (List.mem_cons_of_mem _ hw)⟩, hsr, ev_tab B, Nat.le_refl _, Nat.le_refl _⟩ (fun z => hin.trans (hI z)) (hcall _ (show ev_fr d + 1 ≤ ev_fr (d + 1) by unfold ev_fr; omega) (show 64 + ev_lw d ≤ ev_lw (d + 1) by unfold ev_lw; omega))
      (fun v' hv' => by cases hv'; exact ev_rt_met B.exec B.bytes B.notSynchronized B.returns (hrok v rfl)) (fun E hE => by cases hE) fu _ _ hrun (Nat.le_refl _) (Nat.le_refl _)
    have hW := hG.2.2 al s.heap [] _ ⟨List.prefix_refl _, hal, hP, hD, va_S.rf, hwf⟩ (ev_args_ok av 0 hav) (fun v hv => by cases hv) (by rw [← ev_args_map]; exact lv_entry (av.map (ev_rv ox al)) hn)
    rw [Nat.sub_self, Nat.sub_self] at hW
    rw [lg_entry_eq]
    exact hW
  | inr E =>
    show vx_Met l _ _ _ _ _ _ _ _ A
    have hz : (mt y).2.2.2.2 = [] := List.isEmpty_iff.mp (hemp E rfl)
    refine vx_ofW (cc := (mt y).2.1) (maxL := (mt y).2.2.1) (ret := (mt y).2.2.2.1) hy (ev_ws0 hz) ?_
    intro p e s m args below meth c s₁ B hml htab hv
    obtain ⟨rfl, hsr, hal, hP, hD, hwf, hav⟩ := hv
    have hts := atoms_spec (ws := ev_ws mt Tg y) B.pre
    have hin : meth.name = (mt y).1.name := (name_of_methodNamed B.named B.method).1
    have hG := ev_run_ok hcode (p := p) (l := l) (e := e) (R := { frames := ev_fr (d + 1), cells := hs'.2.1 - hs.2.1, slots := hs'.2.2 - hs.2.2, locals := ev_lw (d + 1) }) (s := s) (m := m) (args := (av.map (ev_rv ox al)).toArray) (below := below) (meth := meth) (c := c) (Q := vx_MQ below (fun _ _ _ _ => False) (ev_XC D cl cs ox A al E hs'.1) (av.map (ev_rv ox al)).toArray s (hs'.2.1 - hs.2.1) (hs'.2.2 - hs.2.2) A) (D := D) (cs := cs) (ox := ox) (A := A) (al0 := al) (k0 := hs.2.1) (n0 := hs.2.2) (call := call) (o := .inr E) (hs' := hs')
      ⟨⟨B.exec, B.bytes, hml, findClass_of_methodNamed B.named, fun w hw => hts w (List.mem_cons_of_mem _ hw)⟩, hsr, ev_tab B, Nat.le_refl _, Nat.le_refl _⟩ (fun z => hin.trans (hI z)) (hcall _ (show ev_fr d + 1 ≤ ev_fr (d + 1) by unfold ev_fr; omega) (show 64 + ev_lw d ≤ ev_lw (d + 1) by unfold ev_lw; omega))
      (fun v' hv' => by cases hv') (fun E' hE => by
        cases hE
        exact ⟨hl, B.notSynchronized, htab, _, _, rfl, fun al' H locs w t ht ha => ⟨rfl, ⟨al', w.1, w.2.1, by rw [ht]; exact w.2.2.1, w.2.2.2.1, w.2.2.2.2.2⟩, w.2.2.2.2.1.F ht⟩⟩) fu _ _ hrun (Nat.le_refl _) (Nat.le_refl _)
    have hW := hG.2.2 al s.heap [] _ ⟨List.prefix_refl _, hal, hP, hD, va_S.rf, hwf⟩ (ev_args_ok av 0 hav) (fun v hv => by cases hv) (by rw [← ev_args_map]; exact lv_entry (av.map (ev_rv ox al)) hn)
    rw [Nat.sub_self, Nat.sub_self] at hW
    rw [lg_entry_eq]
    exact hW
end EVM
/-- all methods' contracts at every depth -/
theorem ev_depth {l : Launch} {mt : EM} {Tg Tn : List Cond} {Tq : EQ} {cl : List vw_C} {pg : Nat → Nat → EA} {isI : Nat → Bool} (hl : l.stackTraces = false) (hy : ∀ y, plainName (mt y).1.cls = true) (hI : ∀ y, isI y = true → (mt y).1.name = "<init>")
    (hcode : ∀ y d pc, ev_Ok (mt y).2.1 (mt y).2.2.1 (mt y).2.2.2.2 (mt y).1.cls Tg Tn Tq cl (isI y) (ev_CO mt Tg Tn Tq cl d) pc (pg y pc)) (D : va_G) (cs : Nat → ClassId) (ox : Nat → Nat) (A : Nat → Prop) (fu : Nat) :
    ∀ (d : Nat) (R : Room), ev_fr d + 1 ≤ R.frames → 64 + ev_lw d ≤ R.locals → ev_CO mt Tg Tn Tq cl d l R cs D ox A (ev_call mt pg fu d) := by
  intro d
  induction d with
  | zero => exact fun R h1 h2 => ⟨h1, h2, fun y av hs o hs' h => by cases h⟩
  | succ d ih =>
    intro R h1 h2
    refine ⟨h1, h2, fun y av hs o hs' h => ?_⟩
    have h : (bif Nat.ble ((av.map fun v => v.category).sum) (mt y).2.2.1 then ev_fin (mt y).2.2.2.1 (mt y).2.2.2.2.isEmpty hs (ev_run (pg y) (ev_call mt pg fu d) fu (0, lv_args 0 av, []) hs) else none) = some (o, hs') := h
    cases hb : Nat.ble ((av.map fun v => v.category).sum) (mt y).2.2.1 with
    | false => rw [hb] at h; cases h
    | true =>
      rw [hb] at h
      obtain ⟨-, m1, m2, -, -⟩ := ev_fin_spec h
      exact ⟨m1, m2, fun al => ev_met hl (hy y) (hI y) (fun pc => hcode y d pc) ih hb h al⟩

/-! a call in a method with handlers: what the callee throws is caught by the first row that names its class -/
def ev_find : List (String × Nat × Nat) → String → Option (Nat × Nat)
  | [], _ => none
  | q :: r, E => bif decide (q.1 = E) then some q.2 else ev_find r E
def ev_del (lo : List (Nat × Value)) (i : Nat) : List (Nat × Value) := lo.filter (fun q => !(q.1 == i) && !(q.1 + 1 == i && q.2.category == 2))
def a_invH (y N : Nat) (ci : Option Nat) (hl : List (String × Nat × Nat)) : EA := fun call k f hs =>
  bif Nat.ble N f.2.2.length && (Nat.ble (((f.2.2.drop N).map fun v => v.category).sum) 8 && ev_recv ci (f.2.2.take N).reverse hs.1) then
    match call y (f.2.2.take N).reverse hs with
    | some (.inl v, h1) => k (f.1 + 3, f.2.1, v.toList ++ f.2.2.drop N) h1
    | some (.inr E, h1) => (match ev_find hl E with
      | some q => k (q.1, ev_del f.2.1 q.2, []) h1
      | none => none)
    | none => none
  else none

theorem ev_CO.small2 {mt : EM} {Tg Tn : List Cond} {Tq : EQ} {cl : List vw_C} {d : Nat} : ∀ (l : Launch) (R : Room) (cs : Nat → ClassId) (D : va_G) (ox : Nat → Nat) (A : Nat → Prop) (call : ECall), ev_CO mt Tg Tn Tq cl d l R cs D ox A call → 1 ≤ R.frames ∧ 260 ≤ R.locals := by
  intro l R cs D ox A call h
  obtain ⟨h1, h2, -⟩ := h
  unfold ev_fr at h1
  unfold ev_lw at h2
  exact ⟨by omega, by omega⟩
/-- a static call of a method with handlers -/
theorem run_SW {cc : ByteArray} {nL : Nat} {hh : List (Nat × Nat × Nat × Nat)} {own : String} {Ts Tn : List Cond} {Tq : EQ} {cl : List vw_C} {mt : EM} {y n index pc : Nat} (d : decode cc pc = .ok (.invokestatic index, 3)) (hz : (mt y).2.2.2.2 ≠ []) (hg : ∀ w ∈ Ts, goodWord w = true)
    (hc : Cond.codeWith (mt y).1 (mt y).2.1 (mt y).2.2.1 (mt y).2.2.2.1 (mt y).2.2.2.2 ∈ Ts) (hini : Cond.initialized (mt y).1.cls ∈ Ts) (hl : Cond.methodLink own index (mt y).1 ∈ Ts) (hi : Cond.static (mt y).1 ∈ Ts)
    (hd : (mt y).1.cls ≠ "java/lang/invoke/MethodHandle" ∧ (mt y).1.cls ≠ "java/lang/invoke/VarHandle" ∧ (parseMethodDescriptor (mt y).1.desc).map (fun d => d.parameters.length) = some n) (hL : (mt y).2.2.1 ≤ 45) :
    ev_Run false cc nL hh own Ts Tn Tq cl mt y n none pc := by
  intro p l e R s m args below meth c D cs A k0 n0 ck cn cx H locs ls cells slots mc ms Pc Qc XC rm av rest hN hls h8 h1 h2 h3 h4 hp hr hf
  have hts := cx.1.2.2.2.2
  have hG : GoodIn Ts (ev_ws mt Ts y) := by
    rw [ev_ws1 hz]
    intro w hw
    rcases List.mem_cons.mp hw with rfl | hw
    · exact ⟨hc, good_of_word (hg _ hc)⟩
    · exact ⟨hw, good_of_word (hg _ hw)⟩
  have cw : vx_CSW R s args own index (mt y).1 (mt y).2.1 (mt y).2.2.1 (mt y).2.2.2.1 (mt y).2.2.2.2 (ev_ws mt Ts y) rm mc ms n :=
    ⟨⟨h1, h2, h3, by omega, pay_in hts hG, by rw [ev_ws1 hz]; exact List.mem_cons_self⟩, hts _ hc, hts _ hini, ⟨hd.1, hd.2.1⟩, ev_nlen hd.2.2, hts _ hl, hts _ hi⟩
  exact ⟨fun hM => vx_runSW cx.1 hM cw hp rfl hN hls rfl (lv_room h8) d hf, fun h => by cases h⟩
/-- what is known of a row of the table of handlers -/
def ev_HF (cc : ByteArray) (nL : Nat) (hh : List (Nat × Nat × Nat × Nat)) (own : String) (Ts Tn : List Cond) (Tq : EQ) (pc : Nat) (E : String) (q : Nat × Nat) : Prop :=
  ∃ (k a b h ct : Nat), hh[k]? = some (a, b, h, ct) ∧ a ≤ pc ∧ pc < b ∧ ct ≠ 0 ∧ Cond.classLink own ct E ∈ Ts ∧ Cond.castable E E ∈ Tn ∧ q.2 < nL ∧
    ((∃ z : Fin 4, (z : Nat) = q.2 ∧ decode cc h = .ok (.astore_n z, 1) ∧ q.1 = h + 1) ∨ (decode cc h = .ok (.astore q.2, 2) ∧ q.1 = h + 2)) ∧
    ∀ (k' : Nat) (z : Nat × Nat × Nat × Nat), k' < k → hh[k']? = some z → z.2.2.2 ≠ 0 ∧ ∃ nm, Cond.classLink own z.2.2.2 nm ∈ Ts ∧ (E, nm) ∈ Tq.2
theorem ev_find_1 {a : String × Nat × Nat} {E : String} {q : Nat × Nat} {P : Prop} {r : List (String × Nat × Nat)} (h : ev_find (a :: r) E = some q) (h1 : a.1 = E → a.2 = q → P) (h2 : ev_find r E = some q → P) : P := by
  unfold ev_find at h
  by_cases hE : a.1 = E
  · rw [decide_eq_true hE] at h
    exact h1 hE (Option.some.inj h)
  · rw [decide_eq_false hE] at h
    exact h2 h
theorem ok_invH {cc : ByteArray} {nL : Nat} {hh : List (Nat × Nat × Nat × Nat)} {own : String} {Ts Tn : List Cond} {Tq : EQ} {cl : List vw_C} {isI : Bool} {mt : EM} {d pc y N : Nat} {ci : Option Nat} {hl : List (String × Nat × Nat)} (hrun : ev_Run true cc nL hh own Ts Tn Tq cl mt y N ci pc)
    (hH : ∀ E q, ev_find hl E = some q → ev_HF cc nL hh own Ts Tn Tq pc E q) : ev_Ok cc nL hh own Ts Tn Tq cl isI (ev_CO mt Ts Tn Tq cl d) pc (a_invH y N ci hl) := by
  intro p l e R s m args below meth c Q D cs ox A al0 k0 n0 call kont f hs o hs' cx hI hC hR hT hpc h hk
  have hok := @ok_inv cc nL hh own Ts Tn Tq cl isI mt d pc y N ci true hrun p l e R s m args below meth c Q D cs ox A al0 k0 n0 call kont f hs o hs' cx hI hC hR hT hpc
  obtain ⟨pc', lo, st⟩ := f
  cases hpc
  have h : (bif Nat.ble N st.length && (Nat.ble (((st.drop N).map fun v => v.category).sum) 8 && ev_recv ci (st.take N).reverse hs.1) then
    (match call y (st.take N).reverse hs with
    | some (.inl v, h1) => kont (pc' + 3, lo, v.toList ++ st.drop N) h1
    | some (.inr E, h1) => (match ev_find hl E with
      | some q => kont (q.1, ev_del lo q.2, []) h1
      | none => none)
    | none => none) else none) = some (o, hs') := h
  have hok : (bif Nat.ble N st.length && (Nat.ble (((st.drop N).map fun v => v.category).sum) 8 && ev_recv ci (st.take N).reverse hs.1) then
    (match call y (st.take N).reverse hs with
    | some (.inl v, h1) => kont (pc' + 3, lo, v.toList ++ st.drop N) h1
    | some (.inr E, h1) => some (.inr E, h1)
    | none => none) else none) = some (o, hs') → _ := hok
  cases hb : (Nat.ble N st.length && (Nat.ble (((st.drop N).map fun v => v.category).sum) 8 && ev_recv ci (st.take N).reverse hs.1)) with
  | false => rw [hb] at h; cases h
  | true =>
    rw [hb] at h hok
    dsimp only [cond_true] at h hok
    cases hq : call y (st.take N).reverse hs with
    | none => rw [hq] at h; cases h
    | some z =>
      rw [hq] at h hok
      obtain ⟨z, h1⟩ := z
      cases z with
      | inl v => exact hok h hk
      | inr E =>
        dsimp only at h
        cases hfd : ev_find hl E with
        | none => rw [hfd] at h; cases h
        | some q =>
          rw [hfd] at h
          dsimp only at h
          obtain ⟨b1, b2⟩ := Bool.and_eq_true_iff.mp hb
          obtain ⟨b2, b3⟩ := Bool.and_eq_true_iff.mp b2
          have n1 : N ≤ st.length := Nat.le_of_ble_eq_true b1
          have n2 : ((st.drop N).map fun v => v.category).sum ≤ 8 := Nat.le_of_ble_eq_true b2
          obtain ⟨r1, r2, hM⟩ := hC
          obtain ⟨m1, m2, m3⟩ := hM _ _ _ _ _ hq
          have hst : ∀ al : List Nat, st.map (ev_rv ox al) = ((st.take N).reverse.map (ev_rv ox al)).reverse ++ (st.drop N).map (ev_rv ox al) := fun al => by
            rw [List.map_reverse, List.reverse_reverse, ← List.map_append, List.take_append_drop]
          have hlen : (st.take N).reverse.length = N := by rw [List.length_reverse, List.length_take]; omega
          have hrecv : ∀ (al : List Nat) (H : Heap), al.length = hs.1.length → va_P D cl (ev_w cs ox al hs.1) H → ∀ c, ci = some c → ∃ (b : Nat) (as : List Value) (q : vw_C) (cell : Cell), (st.take N).reverse.map (ev_rv ox al) = .ref b :: as ∧ cl[c]? = some q ∧ H[b]? = some cell ∧ cell.vm.isStatics = false ∧ s.vm.findClass q.1 = some cell.cls := by
            intro al H hn hP c0 hc0
            subst hc0
            unfold ev_recv at b3
            match hav : (st.take N).reverse, b3 with
            | .ref b :: as, b3 =>
              dsimp only at b3
              cases hq : hs.1[b]? with
              | none => rw [hq] at b3; cases b3
              | some e0 =>
                rw [hq] at b3
                obtain ⟨t0, fs⟩ := e0
                cases t0 with
                | inl t => cases b3
                | inr c' =>
                  cases Nat.eq_of_beq_eq_true b3
                  have he := ev_w_get (cs := cs) (ox := ox) hn hq
                  obtain ⟨r, h1, -⟩ := hP b _ he
                  obtain ⟨cell, z1, z2, z3⟩ := va_recv cx.2.1.1 hP h1 he
                  exact ⟨al.getD b 0, as.map (ev_rv ox al), r, cell, rfl, h1, z1, z2, z3⟩
          obtain ⟨kx, a, b, hpc2, ct, x1, x2, x3, x4, x5, x6, x7, x8, x9⟩ := hH E q hfd
          intro k1 k2
          obtain ⟨g1, g2, g3⟩ := hk _ _ h (Nat.le_trans k1 m1) (Nat.le_trans k2 m2)
          refine ⟨Nat.le_trans m1 g1, Nat.le_trans m2 g2, fun al H locs ls w wl wv hl => ?_⟩
          have hM3 : vx_Met l (mt y).1 (ev_ws mt Ts y) _ _ _ _ _ _ A := m3 al
          have hr := (hrun p l e R s m args below meth c D cs A k0 n0 _ _ cx H locs ls (hs.2.1 - k0) (hs.2.2 - n0) (h1.2.1 - hs.2.1) (h1.2.2 - hs.2.2) _ _ _ _ ((st.take N).reverse.map (ev_rv ox al)) ((st.drop N).map (ev_rv ox al)) (by rw [List.length_map]; exact hlen) hl.1 (by rw [ev_cats]; exact n2) rfl rfl r1 r2
            (ev_pre cx.2.1 w (fun v hv => wv v (List.mem_of_mem_take (List.mem_reverse.mp hv)))) (hrecv al H w.2.1 w.2.2.1) (by have := cx.2.2.2; omega)).2 rfl hM3
          show W p l e R s m args below meth c H locs (hs.2.1 - k0) (hs.2.2 - n0) _ (F0 m pc' ls (st.map (ev_rv ox al)))
          rw [hst al]
          refine ev_afterX hr w.2.2.2.2.1 (fun al' H1 locs1 ce q9 q1 q2 q3 q4 q5 q6 hce hcv hcl => ?_)
          obtain ⟨⟨hx, hbb, hml, hown, hts⟩, ⟨hKK, hA, hNw, hZU, hZS, hTq, hNc⟩, hEx, hRc, hRs⟩ := cx
          have hx1 : (c.exceptionTable.toList.map (fun h => (h.startPc, h.endPc, h.handlerPc, h.catchType)))[kx]? = some (a, b, hpc2, ct) := by rw [hEx]; exact x1
          rw [List.getElem?_map] at hx1
          cases hxe : c.exceptionTable.toList[kx]? with
          | none => rw [hxe] at hx1; cases hx1
          | some xe =>
            rw [hxe] at hx1
            have hxq : (xe.startPc, xe.endPc, xe.handlerPc, xe.catchType) = (a, b, hpc2, ct) := Option.some.inj hx1
            have e1 : xe.startPc = a := congrArg (fun z => z.1) hxq
            have e2 : xe.endPc = b := congrArg (fun z => z.2.1) hxq
            have e3 : xe.handlerPc = hpc2 := congrArg (fun z => z.2.2.1) hxq
            have e4 : xe.catchType = ct := congrArg (fun z => z.2.2.2) hxq
            have hsplit : c.exceptionTable.toList = c.exceptionTable.toList.take kx ++ xe :: c.exceptionTable.toList.drop (kx + 1) := by
              obtain ⟨hlt, hge⟩ := List.getElem?_eq_some_iff.mp hxe
              rw [← hge, List.getElem_cons_drop, List.take_append_drop]
            refine vx_catch hown _ xe _ hsplit (fun z hz => ?_) (by show (decide (xe.startPc ≤ pc') && decide (pc' < xe.endPc)) = true; rw [e1, e2, decide_eq_true x2, decide_eq_true x3]; rfl) (by rw [e4]; exact x4) (by rw [e4]; exact hts _ x5) (va_Nw.use (ev_nestw_on (hNw _ x6).1) (hNw _ x6).2) hce hcv hcl ?_
            · obtain ⟨kz, hkz⟩ := List.getElem?_of_mem hz
              have hkl : kz < kx := by
                have := (List.getElem?_eq_some_iff.mp hkz).1
                rw [List.length_take] at this
                omega
              rw [List.getElem?_take_of_lt hkl] at hkz
              obtain ⟨y1, nm, y2, y3⟩ := x9 kz (z.startPc, z.endPc, z.handlerPc, z.catchType) hkl (by rw [← hEx, List.getElem?_map, hkz]; rfl)
              exact Or.inr ⟨y1, nm, hts _ y2, hNc _ y3⟩
            · obtain ⟨be, rfl⟩ := q1
              have hmono : hs.1.length ≤ h1.1.length := by rw [← w.2.1, ← q2, List.length_append]; exact Nat.le_add_right _ _
              have k3 : ∀ ls', lv_has ls' nL ((ev_del lo q.2).map (fun q : Nat × Value => (q.1, ev_rv ox (al ++ be) q.2))) → W p l e R s m args below meth c H1 locs1 (h1.2.1 - k0) (h1.2.2 - n0) Q (F0 m q.1 ls' []) := fun ls' hl' =>
                g3 (al ++ be) H1 locs1 ls' ⟨List.IsPrefix.trans w.1 (List.prefix_append _ _), q2, q3, q4, q5, q6⟩ (fun z hz => ev_ok_mono hmono (wl z (List.mem_filter.mp hz).1)) (fun v hv => by cases hv) hl'
              rw [show h1.2.1 - k0 = hs.2.1 - k0 + (h1.2.1 - hs.2.1) by omega, show h1.2.2 - n0 = hs.2.2 - n0 + (h1.2.2 - hs.2.2) by omega] at k3
              have hl2 : lv_has ls nL (lo.map (fun q : Nat × Value => (q.1, ev_rv ox (al ++ be) q.2))) := by rw [ev_loc_app w.2.1 wl]; exact hl
              have hdel : ∀ ls', lv_has ls' nL ((q.2, Value.ref q9) :: (lo.map (fun q : Nat × Value => (q.1, ev_rv ox (al ++ be) q.2))).filter (fun z => !(z.1 == q.2) && !(z.1 + 1 == q.2 && z.2.category == 2))) → lv_has ls' nL ((ev_del lo q.2).map (fun q : Nat × Value => (q.1, ev_rv ox (al ++ be) q.2))) := by
                intro ls' hls
                refine ⟨hls.1, hls.2.1, fun z hz => hls.2.2 z (List.mem_cons_of_mem _ ?_)⟩
                rw [ev_filt]
                exact hz
              rw [e3]
              rcases x8 with ⟨z, z1, z2, z3⟩ | ⟨z2, z3⟩
              · rw [z3] at k3
                exact lv_astore_n hx hbb z2 z1 hl2 x7 rfl (fun ls' hls => k3 ls' (hdel ls' hls))
              · rw [z3] at k3
                exact lv_astore hx hbb z2 hl2 x7 rfl (fun ls' hls => k3 ls' (hdel ls' hls))
end
section
-- ===== PART A: goes FIRST, ahead of the names: the tables' words, and 'selects' of the private methods out of them =====
/-- a private method of a class that the tables say can be made, by its rows of tables_1 -/
def lw_okq (q : MethodName × Nat) : Prop := (q.1.cls ≠ "java/lang/invoke/MethodHandle" ∧ q.1.cls ≠ "java/lang/invoke/VarHandle") ∧ Cond.instantiable q.1.cls q.2 ∈ tables_1 ∧ Cond.privateMethod q.1 ∈ tables_1 ∧ Cond.instanceMethod q.1 ∈ tables_1
theorem lw_p0 : lw_okq (⟨"LinkHarbour$Settling", "forget", "()V"⟩, 10) := ⟨⟨by decide +kernel, by decide +kernel⟩, List.mem_of_getElem? (i := 234) (by decide +kernel), List.mem_of_getElem? (i := 240) (by decide +kernel), List.mem_of_getElem? (i := 241) (by decide +kernel)⟩
theorem lw_p1 : lw_okq (⟨"LinkHarbour$LibraryTable", "loaded", "()I"⟩, 16) := ⟨⟨by decide +kernel, by decide +kernel⟩, List.mem_of_getElem? (i := 122) (by decide +kernel), List.mem_of_getElem? (i := 468) (by decide +kernel), List.mem_of_getElem? (i := 469) (by decide +kernel)⟩
theorem lw_p2 : lw_okq (⟨"java/lang/Throwable", "fillInStackTrace", "(I)Ljava/lang/Throwable;"⟩, 6) := ⟨⟨by decide +kernel, by decide +kernel⟩, List.mem_of_getElem? (i := 572) (by decide +kernel), List.mem_of_getElem? (i := 570) (by decide +kernel), List.mem_of_getElem? (i := 571) (by decide +kernel)⟩
theorem lw_p3 : lw_okq (⟨"LinkHarbour", "mixObjects", "(J)J"⟩, 9) := ⟨⟨by decide +kernel, by decide +kernel⟩, List.mem_of_getElem? (i := 25) (by decide +kernel), List.mem_of_getElem? (i := 606) (by decide +kernel), List.mem_of_getElem? (i := 607) (by decide +kernel)⟩
theorem lw_p4 : lw_okq (⟨"LinkHarbour", "mixSections", "(J)J"⟩, 9) := ⟨⟨by decide +kernel, by decide +kernel⟩, List.mem_of_getElem? (i := 25) (by decide +kernel), List.mem_of_getElem? (i := 652) (by decide +kernel), List.mem_of_getElem? (i := 653) (by decide +kernel)⟩
theorem lw_p5 : lw_okq (⟨"LinkHarbour", "mixNames", "(J)J"⟩, 9) := ⟨⟨by decide +kernel, by decide +kernel⟩, List.mem_of_getElem? (i := 25) (by decide +kernel), List.mem_of_getElem? (i := 689) (by decide +kernel), List.mem_of_getElem? (i := 690) (by decide +kernel)⟩
theorem lw_p6 : lw_okq (⟨"LinkHarbour", "mixFaults", "(J)J"⟩, 9) := ⟨⟨by decide +kernel, by decide +kernel⟩, List.mem_of_getElem? (i := 25) (by decide +kernel), List.mem_of_getElem? (i := 725) (by decide +kernel), List.mem_of_getElem? (i := 726) (by decide +kernel)⟩
theorem lw_p7 : lw_okq (⟨"LinkHarbour", "mixLibrary", "(JI)J"⟩, 9) := ⟨⟨by decide +kernel, by decide +kernel⟩, List.mem_of_getElem? (i := 25) (by decide +kernel), List.mem_of_getElem? (i := 748) (by decide +kernel), List.mem_of_getElem? (i := 749) (by decide +kernel)⟩
theorem lw_p8 : lw_okq (⟨"LinkHarbour$LibraryTable", "fillRow", "(I)I"⟩, 16) := ⟨⟨by decide +kernel, by decide +kernel⟩, List.mem_of_getElem? (i := 122) (by decide +kernel), List.mem_of_getElem? (i := 800) (by decide +kernel), List.mem_of_getElem? (i := 801) (by decide +kernel)⟩
theorem lw_p9 : lw_okq (⟨"LinkHarbour$LibraryTable", "neededNow", "(I)I"⟩, 16) := ⟨⟨by decide +kernel, by decide +kernel⟩, List.mem_of_getElem? (i := 122) (by decide +kernel), List.mem_of_getElem? (i := 804) (by decide +kernel), List.mem_of_getElem? (i := 805) (by decide +kernel)⟩
theorem lw_p10 : lw_okq (⟨"LinkHarbour$Taking", "takeAll", "(I)V"⟩, 7) := ⟨⟨by decide +kernel, by decide +kernel⟩, List.mem_of_getElem? (i := 206) (by decide +kernel), List.mem_of_getElem? (i := 900) (by decide +kernel), List.mem_of_getElem? (i := 901) (by decide +kernel)⟩
theorem lw_p11 : lw_okq (⟨"LinkHarbour$Taking", "add", "(I)V"⟩, 7) := ⟨⟨by decide +kernel, by decide +kernel⟩, List.mem_of_getElem? (i := 206) (by decide +kernel), List.mem_of_getElem? (i := 905) (by decide +kernel), List.mem_of_getElem? (i := 906) (by decide +kernel)⟩
theorem lw_p12 : lw_okq (⟨"LinkHarbour$Taking", "takeGroup", "(II)V"⟩, 7) := ⟨⟨by decide +kernel, by decide +kernel⟩, List.mem_of_getElem? (i := 206) (by decide +kernel), List.mem_of_getElem? (i := 918) (by decide +kernel), List.mem_of_getElem? (i := 919) (by decide +kernel)⟩
theorem lw_p13 : lw_okq (⟨"LinkHarbour$Taking", "takeWanted", "(I)V"⟩, 7) := ⟨⟨by decide +kernel, by decide +kernel⟩, List.mem_of_getElem? (i := 206) (by decide +kernel), List.mem_of_getElem? (i := 927) (by decide +kernel), List.mem_of_getElem? (i := 928) (by decide +kernel)⟩
theorem lw_p14 : lw_okq (⟨"LinkHarbour$Settling", "weigh", "(II)V"⟩, 10) := ⟨⟨by decide +kernel, by decide +kernel⟩, List.mem_of_getElem? (i := 234) (by decide +kernel), List.mem_of_getElem? (i := 944) (by decide +kernel), List.mem_of_getElem? (i := 945) (by decide +kernel)⟩
theorem lw_p15 : lw_okq (⟨"LinkHarbour$Settling", "adopt", "(III)V"⟩, 10) := ⟨⟨by decide +kernel, by decide +kernel⟩, List.mem_of_getElem? (i := 234) (by decide +kernel), List.mem_of_getElem? (i := 966) (by decide +kernel), List.mem_of_getElem? (i := 967) (by decide +kernel)⟩
def lw_privs_1 : List (MethodName × Nat) := [(⟨"LinkHarbour$Settling", "forget", "()V"⟩, 10), (⟨"LinkHarbour$LibraryTable", "loaded", "()I"⟩, 16), (⟨"java/lang/Throwable", "fillInStackTrace", "(I)Ljava/lang/Throwable;"⟩, 6), (⟨"LinkHarbour", "mixObjects", "(J)J"⟩, 9), (⟨"LinkHarbour", "mixSections", "(J)J"⟩, 9), (⟨"LinkHarbour", "mixNames", "(J)J"⟩, 9), (⟨"LinkHarbour", "mixFaults", "(J)J"⟩, 9), (⟨"LinkHarbour", "mixLibrary", "(JI)J"⟩, 9), (⟨"LinkHarbour$LibraryTable", "fillRow", "(I)I"⟩, 16), (⟨"LinkHarbour$LibraryTable", "neededNow", "(I)I"⟩, 16), (⟨"LinkHarbour$Taking", "takeAll", "(I)V"⟩, 7), (⟨"LinkHarbour$Taking", "add", "(I)V"⟩, 7), (⟨"LinkHarbour$Taking", "takeGroup", "(II)V"⟩, 7), (⟨"LinkHarbour$Taking", "takeWanted", "(I)V"⟩, 7), (⟨"LinkHarbour$Settling", "weigh", "(II)V"⟩, 10), (⟨"LinkHarbour$Settling", "adopt", "(III)V"⟩, 10)]
theorem lw_r1 : ∀ q ∈ lw_privs_1, lw_okq q := List.forall_mem_cons.mpr ⟨lw_p0, List.forall_mem_cons.mpr ⟨lw_p1, List.forall_mem_cons.mpr ⟨lw_p2, List.forall_mem_cons.mpr ⟨lw_p3, List.forall_mem_cons.mpr ⟨lw_p4, List.forall_mem_cons.mpr ⟨lw_p5, List.forall_mem_cons.mpr ⟨lw_p6, List.forall_mem_cons.mpr ⟨lw_p7, List.forall_mem_cons.mpr ⟨lw_p8, List.forall_mem_cons.mpr ⟨lw_p9, List.forall_mem_cons.mpr ⟨lw_p10, List.forall_mem_cons.mpr ⟨lw_p11, List.forall_mem_cons.mpr ⟨lw_p12, List.forall_mem_cons.mpr ⟨lw_p13, List.forall_mem_cons.mpr ⟨lw_p14, List.forall_mem_cons.mpr ⟨lw_p15, fun _ h => absurd h List.not_mem_nil⟩⟩⟩⟩⟩⟩⟩⟩⟩⟩⟩⟩⟩⟩⟩⟩
theorem lw_p16 : lw_okq (⟨"LinkHarbour$Reaching", "forget", "()V"⟩, 9) := ⟨⟨by decide +kernel, by decide +kernel⟩, List.mem_of_getElem? (i := 275) (by decide +kernel), List.mem_of_getElem? (i := 986) (by decide +kernel), List.mem_of_getElem? (i := 987) (by decide +kernel)⟩
theorem lw_p17 : lw_okq (⟨"LinkHarbour$Reaching", "reachSection", "(I)V"⟩, 9) := ⟨⟨by decide +kernel, by decide +kernel⟩, List.mem_of_getElem? (i := 275) (by decide +kernel), List.mem_of_getElem? (i := 1001) (by decide +kernel), List.mem_of_getElem? (i := 1002) (by decide +kernel)⟩
theorem lw_p18 : lw_okq (⟨"LinkHarbour$Reaching", "reachName", "(I)V"⟩, 9) := ⟨⟨by decide +kernel, by decide +kernel⟩, List.mem_of_getElem? (i := 275) (by decide +kernel), List.mem_of_getElem? (i := 1005) (by decide +kernel), List.mem_of_getElem? (i := 1006) (by decide +kernel)⟩
theorem lw_p19 : lw_okq (⟨"LinkHarbour$Reaching", "follow", "(IZ)V"⟩, 9) := ⟨⟨by decide +kernel, by decide +kernel⟩, List.mem_of_getElem? (i := 275) (by decide +kernel), List.mem_of_getElem? (i := 1019) (by decide +kernel), List.mem_of_getElem? (i := 1020) (by decide +kernel)⟩
theorem lw_p20 : lw_okq (⟨"LinkHarbour$SectionTable", "hasPiece", "(II)Z"⟩, 9) := ⟨⟨by decide +kernel, by decide +kernel⟩, List.mem_of_getElem? (i := 71) (by decide +kernel), List.mem_of_getElem? (i := 1028) (by decide +kernel), List.mem_of_getElem? (i := 1029) (by decide +kernel)⟩
theorem lw_p21 : lw_okq (⟨"LinkHarbour$Layout", "orderSections", "()V"⟩, 13) := ⟨⟨by decide +kernel, by decide +kernel⟩, List.mem_of_getElem? (i := 309) (by decide +kernel), List.mem_of_getElem? (i := 1044) (by decide +kernel), List.mem_of_getElem? (i := 1045) (by decide +kernel)⟩
theorem lw_p22 : lw_okq (⟨"LinkHarbour$Layout", "append", "(I)V"⟩, 13) := ⟨⟨by decide +kernel, by decide +kernel⟩, List.mem_of_getElem? (i := 309) (by decide +kernel), List.mem_of_getElem? (i := 1052) (by decide +kernel), List.mem_of_getElem? (i := 1053) (by decide +kernel)⟩
theorem lw_p23 : lw_okq (⟨"LinkHarbour$Layout", "placeSections", "()V"⟩, 13) := ⟨⟨by decide +kernel, by decide +kernel⟩, List.mem_of_getElem? (i := 309) (by decide +kernel), List.mem_of_getElem? (i := 1060) (by decide +kernel), List.mem_of_getElem? (i := 1061) (by decide +kernel)⟩
theorem lw_p24 : lw_okq (⟨"LinkHarbour$Layout", "wordsAhead", "(II)I"⟩, 13) := ⟨⟨by decide +kernel, by decide +kernel⟩, List.mem_of_getElem? (i := 309) (by decide +kernel), List.mem_of_getElem? (i := 1068) (by decide +kernel), List.mem_of_getElem? (i := 1069) (by decide +kernel)⟩
theorem lw_p25 : lw_okq (⟨"LinkHarbour$Layout", "placeCommons", "()V"⟩, 13) := ⟨⟨by decide +kernel, by decide +kernel⟩, List.mem_of_getElem? (i := 309) (by decide +kernel), List.mem_of_getElem? (i := 1076) (by decide +kernel), List.mem_of_getElem? (i := 1077) (by decide +kernel)⟩
theorem lw_p26 : lw_okq (⟨"LinkHarbour$Layout", "addressNames", "()V"⟩, 13) := ⟨⟨by decide +kernel, by decide +kernel⟩, List.mem_of_getElem? (i := 309) (by decide +kernel), List.mem_of_getElem? (i := 1092) (by decide +kernel), List.mem_of_getElem? (i := 1093) (by decide +kernel)⟩
theorem lw_p27 : lw_okq (⟨"LinkHarbour$Layout", "lengthenAll", "(I)Z"⟩, 13) := ⟨⟨by decide +kernel, by decide +kernel⟩, List.mem_of_getElem? (i := 309) (by decide +kernel), List.mem_of_getElem? (i := 1101) (by decide +kernel), List.mem_of_getElem? (i := 1102) (by decide +kernel)⟩
theorem lw_p28 : lw_okq (⟨"LinkHarbour$Layout", "lengthenIn", "(II)Z"⟩, 13) := ⟨⟨by decide +kernel, by decide +kernel⟩, List.mem_of_getElem? (i := 309) (by decide +kernel), List.mem_of_getElem? (i := 1105) (by decide +kernel), List.mem_of_getElem? (i := 1106) (by decide +kernel)⟩
theorem lw_p29 : lw_okq (⟨"LinkHarbour$Link", "tellFaults", "(I)V"⟩, 9) := ⟨⟨by decide +kernel, by decide +kernel⟩, List.mem_of_getElem? (i := 187) (by decide +kernel), List.mem_of_getElem? (i := 1118) (by decide +kernel), List.mem_of_getElem? (i := 1119) (by decide +kernel)⟩
theorem lw_p30 : lw_okq (⟨"LinkHarbour$Link", "tellFaultsOf", "(III)V"⟩, 9) := ⟨⟨by decide +kernel, by decide +kernel⟩, List.mem_of_getElem? (i := 187) (by decide +kernel), List.mem_of_getElem? (i := 1145) (by decide +kernel), List.mem_of_getElem? (i := 1146) (by decide +kernel)⟩
theorem lw_p31 : lw_okq (⟨"LinkHarbour", "addReference", "(IIIIZ)I"⟩, 9) := ⟨⟨by decide +kernel, by decide +kernel⟩, List.mem_of_getElem? (i := 25) (by decide +kernel), List.mem_of_getElem? (i := 1232) (by decide +kernel), List.mem_of_getElem? (i := 1233) (by decide +kernel)⟩
def lw_privs_2 : List (MethodName × Nat) := [(⟨"LinkHarbour$Reaching", "forget", "()V"⟩, 9), (⟨"LinkHarbour$Reaching", "reachSection", "(I)V"⟩, 9), (⟨"LinkHarbour$Reaching", "reachName", "(I)V"⟩, 9), (⟨"LinkHarbour$Reaching", "follow", "(IZ)V"⟩, 9), (⟨"LinkHarbour$SectionTable", "hasPiece", "(II)Z"⟩, 9), (⟨"LinkHarbour$Layout", "orderSections", "()V"⟩, 13), (⟨"LinkHarbour$Layout", "append", "(I)V"⟩, 13), (⟨"LinkHarbour$Layout", "placeSections", "()V"⟩, 13), (⟨"LinkHarbour$Layout", "wordsAhead", "(II)I"⟩, 13), (⟨"LinkHarbour$Layout", "placeCommons", "()V"⟩, 13), (⟨"LinkHarbour$Layout", "addressNames", "()V"⟩, 13), (⟨"LinkHarbour$Layout", "lengthenAll", "(I)Z"⟩, 13), (⟨"LinkHarbour$Layout", "lengthenIn", "(II)Z"⟩, 13), (⟨"LinkHarbour$Link", "tellFaults", "(I)V"⟩, 9), (⟨"LinkHarbour$Link", "tellFaultsOf", "(III)V"⟩, 9), (⟨"LinkHarbour", "addReference", "(IIIIZ)I"⟩, 9)]
theorem lw_r2 : ∀ q ∈ lw_privs_2, lw_okq q := List.forall_mem_cons.mpr ⟨lw_p16, List.forall_mem_cons.mpr ⟨lw_p17, List.forall_mem_cons.mpr ⟨lw_p18, List.forall_mem_cons.mpr ⟨lw_p19, List.forall_mem_cons.mpr ⟨lw_p20, List.forall_mem_cons.mpr ⟨lw_p21, List.forall_mem_cons.mpr ⟨lw_p22, List.forall_mem_cons.mpr ⟨lw_p23, List.forall_mem_cons.mpr ⟨lw_p24, List.forall_mem_cons.mpr ⟨lw_p25, List.forall_mem_cons.mpr ⟨lw_p26, List.forall_mem_cons.mpr ⟨lw_p27, List.forall_mem_cons.mpr ⟨lw_p28, List.forall_mem_cons.mpr ⟨lw_p29, List.forall_mem_cons.mpr ⟨lw_p30, List.forall_mem_cons.mpr ⟨lw_p31, fun _ h => absurd h List.not_mem_nil⟩⟩⟩⟩⟩⟩⟩⟩⟩⟩⟩⟩⟩⟩⟩⟩
theorem lw_p32 : lw_okq (⟨"LinkHarbour$Link", "writePiece", "(LLinkHarbour$Image;III)V"⟩, 9) := ⟨⟨by decide +kernel, by decide +kernel⟩, List.mem_of_getElem? (i := 187) (by decide +kernel), List.mem_of_getElem? (i := 1333) (by decide +kernel), List.mem_of_getElem? (i := 1334) (by decide +kernel)⟩
theorem lw_p33 : lw_okq (⟨"LinkHarbour$LibraryTable", "load", "(I)V"⟩, 16) := ⟨⟨by decide +kernel, by decide +kernel⟩, List.mem_of_getElem? (i := 122) (by decide +kernel), List.mem_of_getElem? (i := 1392) (by decide +kernel), List.mem_of_getElem? (i := 1393) (by decide +kernel)⟩
theorem lw_p34 : lw_okq (⟨"LinkHarbour$LibraryTable", "makeGlobal", "(I)V"⟩, 16) := ⟨⟨by decide +kernel, by decide +kernel⟩, List.mem_of_getElem? (i := 122) (by decide +kernel), List.mem_of_getElem? (i := 1398) (by decide +kernel), List.mem_of_getElem? (i := 1399) (by decide +kernel)⟩
theorem lw_p35 : lw_okq (⟨"LinkHarbour$LibraryTable", "initialise", "(II)V"⟩, 16) := ⟨⟨by decide +kernel, by decide +kernel⟩, List.mem_of_getElem? (i := 122) (by decide +kernel), List.mem_of_getElem? (i := 1403) (by decide +kernel), List.mem_of_getElem? (i := 1404) (by decide +kernel)⟩
theorem lw_p36 : lw_okq (⟨"LinkHarbour$LibraryTable", "finish", "(I)V"⟩, 16) := ⟨⟨by decide +kernel, by decide +kernel⟩, List.mem_of_getElem? (i := 122) (by decide +kernel), List.mem_of_getElem? (i := 1423) (by decide +kernel), List.mem_of_getElem? (i := 1424) (by decide +kernel)⟩
theorem lw_p37 : lw_okq (⟨"LinkHarbourModel", "no", "(I)I"⟩, 30) := ⟨⟨by decide +kernel, by decide +kernel⟩, List.mem_of_getElem? (i := 1471) (by decide +kernel), List.mem_of_getElem? (i := 1590) (by decide +kernel), List.mem_of_getElem? (i := 1591) (by decide +kernel)⟩
theorem lw_p38 : lw_okq (⟨"LinkHarbourModel", "isObject", "(I)Z"⟩, 30) := ⟨⟨by decide +kernel, by decide +kernel⟩, List.mem_of_getElem? (i := 1471) (by decide +kernel), List.mem_of_getElem? (i := 1598) (by decide +kernel), List.mem_of_getElem? (i := 1599) (by decide +kernel)⟩
theorem lw_p39 : lw_okq (⟨"LinkHarbourModel", "isSection", "(I)Z"⟩, 30) := ⟨⟨by decide +kernel, by decide +kernel⟩, List.mem_of_getElem? (i := 1471) (by decide +kernel), List.mem_of_getElem? (i := 1612) (by decide +kernel), List.mem_of_getElem? (i := 1613) (by decide +kernel)⟩
theorem lw_p40 : lw_okq (⟨"LinkHarbourModel", "add", "(IIIIZ)I"⟩, 30) := ⟨⟨by decide +kernel, by decide +kernel⟩, List.mem_of_getElem? (i := 1471) (by decide +kernel), List.mem_of_getElem? (i := 1616) (by decide +kernel), List.mem_of_getElem? (i := 1617) (by decide +kernel)⟩
theorem lw_p41 : lw_okq (⟨"LinkHarbourModel", "defineNow", "(IIIIIZ)I"⟩, 30) := ⟨⟨by decide +kernel, by decide +kernel⟩, List.mem_of_getElem? (i := 1471) (by decide +kernel), List.mem_of_getElem? (i := 1635) (by decide +kernel), List.mem_of_getElem? (i := 1636) (by decide +kernel)⟩
theorem lw_p42 : lw_okq (⟨"LinkHarbourModel", "definitions", "(I)I"⟩, 30) := ⟨⟨by decide +kernel, by decide +kernel⟩, List.mem_of_getElem? (i := 1471) (by decide +kernel), List.mem_of_getElem? (i := 1643) (by decide +kernel), List.mem_of_getElem? (i := 1644) (by decide +kernel)⟩
theorem lw_p43 : lw_okq (⟨"LinkHarbourModel", "ofObjectNow", "(II)I"⟩, 30) := ⟨⟨by decide +kernel, by decide +kernel⟩, List.mem_of_getElem? (i := 1471) (by decide +kernel), List.mem_of_getElem? (i := 1659) (by decide +kernel), List.mem_of_getElem? (i := 1660) (by decide +kernel)⟩
theorem lw_p44 : lw_okq (⟨"LinkHarbourModel", "sectionsOf", "(I)I"⟩, 30) := ⟨⟨by decide +kernel, by decide +kernel⟩, List.mem_of_getElem? (i := 1471) (by decide +kernel), List.mem_of_getElem? (i := 1663) (by decide +kernel), List.mem_of_getElem? (i := 1664) (by decide +kernel)⟩
theorem lw_p45 : lw_okq (⟨"LinkHarbourModel", "itemOf", "(I)I"⟩, 30) := ⟨⟨by decide +kernel, by decide +kernel⟩, List.mem_of_getElem? (i := 1471) (by decide +kernel), List.mem_of_getElem? (i := 1667) (by decide +kernel), List.mem_of_getElem? (i := 1668) (by decide +kernel)⟩
theorem lw_p46 : lw_okq (⟨"LinkHarbourModel$Linked", "endOf", "(I)I"⟩, 25) := ⟨⟨by decide +kernel, by decide +kernel⟩, List.mem_of_getElem? (i := 1682) (by decide +kernel), List.mem_of_getElem? (i := 1688) (by decide +kernel), List.mem_of_getElem? (i := 1689) (by decide +kernel)⟩
theorem lw_p47 : lw_okq (⟨"LinkHarbourModel$Linked", "take", "(III)V"⟩, 25) := ⟨⟨by decide +kernel, by decide +kernel⟩, List.mem_of_getElem? (i := 1682) (by decide +kernel), List.mem_of_getElem? (i := 1692) (by decide +kernel), List.mem_of_getElem? (i := 1693) (by decide +kernel)⟩
def lw_privs_3 : List (MethodName × Nat) := [(⟨"LinkHarbour$Link", "writePiece", "(LLinkHarbour$Image;III)V"⟩, 9), (⟨"LinkHarbour$LibraryTable", "load", "(I)V"⟩, 16), (⟨"LinkHarbour$LibraryTable", "makeGlobal", "(I)V"⟩, 16), (⟨"LinkHarbour$LibraryTable", "initialise", "(II)V"⟩, 16), (⟨"LinkHarbour$LibraryTable", "finish", "(I)V"⟩, 16), (⟨"LinkHarbourModel", "no", "(I)I"⟩, 30), (⟨"LinkHarbourModel", "isObject", "(I)Z"⟩, 30), (⟨"LinkHarbourModel", "isSection", "(I)Z"⟩, 30), (⟨"LinkHarbourModel", "add", "(IIIIZ)I"⟩, 30), (⟨"LinkHarbourModel", "defineNow", "(IIIIIZ)I"⟩, 30), (⟨"LinkHarbourModel", "definitions", "(I)I"⟩, 30), (⟨"LinkHarbourModel", "ofObjectNow", "(II)I"⟩, 30), (⟨"LinkHarbourModel", "sectionsOf", "(I)I"⟩, 30), (⟨"LinkHarbourModel", "itemOf", "(I)I"⟩, 30), (⟨"LinkHarbourModel$Linked", "endOf", "(I)I"⟩, 25), (⟨"LinkHarbourModel$Linked", "take", "(III)V"⟩, 25)]
theorem lw_r3 : ∀ q ∈ lw_privs_3, lw_okq q := List.forall_mem_cons.mpr ⟨lw_p32, List.forall_mem_cons.mpr ⟨lw_p33, List.forall_mem_cons.mpr ⟨lw_p34, List.forall_mem_cons.mpr ⟨lw_p35, List.forall_mem_cons.mpr ⟨lw_p36, List.forall_mem_cons.mpr ⟨lw_p37, List.forall_mem_cons.mpr ⟨lw_p38, List.forall_mem_cons.mpr ⟨lw_p39, List.forall_mem_cons.mpr ⟨lw_p40, List.forall_mem_cons.mpr ⟨lw_p41, List.forall_mem_cons.mpr ⟨lw_p42, List.forall_mem_cons.mpr ⟨lw_p43, List.forall_mem_cons.mpr ⟨lw_p44, List.forall_mem_cons.mpr ⟨lw_p45, List.forall_mem_cons.mpr ⟨lw_p46, List.forall_mem_cons.mpr ⟨lw_p47, fun _ h => absurd h List.not_mem_nil⟩⟩⟩⟩⟩⟩⟩⟩⟩⟩⟩⟩⟩⟩⟩⟩
theorem lw_p48 : lw_okq (⟨"LinkHarbourModel$Linked", "isDrawn", "(I)Z"⟩, 25) := ⟨⟨by decide +kernel, by decide +kernel⟩, List.mem_of_getElem? (i := 1682) (by decide +kernel), List.mem_of_getElem? (i := 1697) (by decide +kernel), List.mem_of_getElem? (i := 1698) (by decide +kernel)⟩
theorem lw_p49 : lw_okq (⟨"LinkHarbourModel$Linked", "isWanted", "(I)Z"⟩, 25) := ⟨⟨by decide +kernel, by decide +kernel⟩, List.mem_of_getElem? (i := 1682) (by decide +kernel), List.mem_of_getElem? (i := 1701) (by decide +kernel), List.mem_of_getElem? (i := 1702) (by decide +kernel)⟩
theorem lw_p50 : lw_okq (⟨"LinkHarbourModel$Linked", "nameAt", "(II)I"⟩, 25) := ⟨⟨by decide +kernel, by decide +kernel⟩, List.mem_of_getElem? (i := 1682) (by decide +kernel), List.mem_of_getElem? (i := 1705) (by decide +kernel), List.mem_of_getElem? (i := 1706) (by decide +kernel)⟩
theorem lw_p51 : lw_okq (⟨"LinkHarbourModel$Linked", "settle", "(I)V"⟩, 25) := ⟨⟨by decide +kernel, by decide +kernel⟩, List.mem_of_getElem? (i := 1682) (by decide +kernel), List.mem_of_getElem? (i := 1709) (by decide +kernel), List.mem_of_getElem? (i := 1710) (by decide +kernel)⟩
theorem lw_p52 : lw_okq (⟨"LinkHarbourModel$Linked", "firstWith", "(II)I"⟩, 25) := ⟨⟨by decide +kernel, by decide +kernel⟩, List.mem_of_getElem? (i := 1682) (by decide +kernel), List.mem_of_getElem? (i := 1713) (by decide +kernel), List.mem_of_getElem? (i := 1714) (by decide +kernel)⟩
theorem lw_p53 : lw_okq (⟨"LinkHarbourModel$Linked", "fault", "(IIII)V"⟩, 25) := ⟨⟨by decide +kernel, by decide +kernel⟩, List.mem_of_getElem? (i := 1682) (by decide +kernel), List.mem_of_getElem? (i := 1718) (by decide +kernel), List.mem_of_getElem? (i := 1719) (by decide +kernel)⟩
theorem lw_p54 : lw_okq (⟨"LinkHarbourModel$Linked", "reachAll", "()V"⟩, 25) := ⟨⟨by decide +kernel, by decide +kernel⟩, List.mem_of_getElem? (i := 1682) (by decide +kernel), List.mem_of_getElem? (i := 1725) (by decide +kernel), List.mem_of_getElem? (i := 1726) (by decide +kernel)⟩
theorem lw_p55 : lw_okq (⟨"LinkHarbourModel$Linked", "reachName", "(I)Z"⟩, 25) := ⟨⟨by decide +kernel, by decide +kernel⟩, List.mem_of_getElem? (i := 1682) (by decide +kernel), List.mem_of_getElem? (i := 1729) (by decide +kernel), List.mem_of_getElem? (i := 1730) (by decide +kernel)⟩
theorem lw_p56 : lw_okq (⟨"LinkHarbourModel$Linked", "sectionOf", "(I)I"⟩, 25) := ⟨⟨by decide +kernel, by decide +kernel⟩, List.mem_of_getElem? (i := 1682) (by decide +kernel), List.mem_of_getElem? (i := 1733) (by decide +kernel), List.mem_of_getElem? (i := 1734) (by decide +kernel)⟩
theorem lw_p57 : lw_okq (⟨"LinkHarbourModel$Linked", "layOut", "()V"⟩, 25) := ⟨⟨by decide +kernel, by decide +kernel⟩, List.mem_of_getElem? (i := 1682) (by decide +kernel), List.mem_of_getElem? (i := 1737) (by decide +kernel), List.mem_of_getElem? (i := 1738) (by decide +kernel)⟩
theorem lw_p58 : lw_okq (⟨"LinkHarbourModel$Linked", "place", "()V"⟩, 25) := ⟨⟨by decide +kernel, by decide +kernel⟩, List.mem_of_getElem? (i := 1682) (by decide +kernel), List.mem_of_getElem? (i := 1741) (by decide +kernel), List.mem_of_getElem? (i := 1742) (by decide +kernel)⟩
theorem lw_p59 : lw_okq (⟨"LinkHarbourModel$Linked", "wordsUpTo", "(II)I"⟩, 25) := ⟨⟨by decide +kernel, by decide +kernel⟩, List.mem_of_getElem? (i := 1682) (by decide +kernel), List.mem_of_getElem? (i := 1748) (by decide +kernel), List.mem_of_getElem? (i := 1749) (by decide +kernel)⟩
theorem lw_p60 : lw_okq (⟨"LinkHarbourModel$Linked", "wordsOf", "(II)I"⟩, 25) := ⟨⟨by decide +kernel, by decide +kernel⟩, List.mem_of_getElem? (i := 1682) (by decide +kernel), List.mem_of_getElem? (i := 1752) (by decide +kernel), List.mem_of_getElem? (i := 1753) (by decide +kernel)⟩
theorem lw_p61 : lw_okq (⟨"LinkHarbourModel$Linked", "standsFor", "(I)I"⟩, 25) := ⟨⟨by decide +kernel, by decide +kernel⟩, List.mem_of_getElem? (i := 1682) (by decide +kernel), List.mem_of_getElem? (i := 1756) (by decide +kernel), List.mem_of_getElem? (i := 1757) (by decide +kernel)⟩
theorem lw_p62 : lw_okq (⟨"LinkHarbourModel$Linked", "write", "()V"⟩, 25) := ⟨⟨by decide +kernel, by decide +kernel⟩, List.mem_of_getElem? (i := 1682) (by decide +kernel), List.mem_of_getElem? (i := 1761) (by decide +kernel), List.mem_of_getElem? (i := 1762) (by decide +kernel)⟩
theorem lw_p63 : lw_okq (⟨"LinkHarbourModel$Linked", "writePiece", "(III)V"⟩, 25) := ⟨⟨by decide +kernel, by decide +kernel⟩, List.mem_of_getElem? (i := 1682) (by decide +kernel), List.mem_of_getElem? (i := 1765) (by decide +kernel), List.mem_of_getElem? (i := 1766) (by decide +kernel)⟩
def lw_privs_4 : List (MethodName × Nat) := [(⟨"LinkHarbourModel$Linked", "isDrawn", "(I)Z"⟩, 25), (⟨"LinkHarbourModel$Linked", "isWanted", "(I)Z"⟩, 25), (⟨"LinkHarbourModel$Linked", "nameAt", "(II)I"⟩, 25), (⟨"LinkHarbourModel$Linked", "settle", "(I)V"⟩, 25), (⟨"LinkHarbourModel$Linked", "firstWith", "(II)I"⟩, 25), (⟨"LinkHarbourModel$Linked", "fault", "(IIII)V"⟩, 25), (⟨"LinkHarbourModel$Linked", "reachAll", "()V"⟩, 25), (⟨"LinkHarbourModel$Linked", "reachName", "(I)Z"⟩, 25), (⟨"LinkHarbourModel$Linked", "sectionOf", "(I)I"⟩, 25), (⟨"LinkHarbourModel$Linked", "layOut", "()V"⟩, 25), (⟨"LinkHarbourModel$Linked", "place", "()V"⟩, 25), (⟨"LinkHarbourModel$Linked", "wordsUpTo", "(II)I"⟩, 25), (⟨"LinkHarbourModel$Linked", "wordsOf", "(II)I"⟩, 25), (⟨"LinkHarbourModel$Linked", "standsFor", "(I)I"⟩, 25), (⟨"LinkHarbourModel$Linked", "write", "()V"⟩, 25), (⟨"LinkHarbourModel$Linked", "writePiece", "(III)V"⟩, 25)]
theorem lw_r4 : ∀ q ∈ lw_privs_4, lw_okq q := List.forall_mem_cons.mpr ⟨lw_p48, List.forall_mem_cons.mpr ⟨lw_p49, List.forall_mem_cons.mpr ⟨lw_p50, List.forall_mem_cons.mpr ⟨lw_p51, List.forall_mem_cons.mpr ⟨lw_p52, List.forall_mem_cons.mpr ⟨lw_p53, List.forall_mem_cons.mpr ⟨lw_p54, List.forall_mem_cons.mpr ⟨lw_p55, List.forall_mem_cons.mpr ⟨lw_p56, List.forall_mem_cons.mpr ⟨lw_p57, List.forall_mem_cons.mpr ⟨lw_p58, List.forall_mem_cons.mpr ⟨lw_p59, List.forall_mem_cons.mpr ⟨lw_p60, List.forall_mem_cons.mpr ⟨lw_p61, List.forall_mem_cons.mpr ⟨lw_p62, List.forall_mem_cons.mpr ⟨lw_p63, fun _ h => absurd h List.not_mem_nil⟩⟩⟩⟩⟩⟩⟩⟩⟩⟩⟩⟩⟩⟩⟩⟩
theorem lw_p64 : lw_okq (⟨"LinkHarbourModel$Linked", "longOf", "(I)I"⟩, 25) := ⟨⟨by decide +kernel, by decide +kernel⟩, List.mem_of_getElem? (i := 1682) (by decide +kernel), List.mem_of_getElem? (i := 1861) (by decide +kernel), List.mem_of_getElem? (i := 1862) (by decide +kernel)⟩
theorem lw_p65 : lw_okq (⟨"LinkHarbourModel", "ofSectionNow", "(II)I"⟩, 30) := ⟨⟨by decide +kernel, by decide +kernel⟩, List.mem_of_getElem? (i := 1471) (by decide +kernel), List.mem_of_getElem? (i := 1869) (by decide +kernel), List.mem_of_getElem? (i := 1870) (by decide +kernel)⟩
theorem lw_p66 : lw_okq (⟨"LinkHarbourModel", "ofNameNow", "(II)I"⟩, 30) := ⟨⟨by decide +kernel, by decide +kernel⟩, List.mem_of_getElem? (i := 1471) (by decide +kernel), List.mem_of_getElem? (i := 1877) (by decide +kernel), List.mem_of_getElem? (i := 1878) (by decide +kernel)⟩
theorem lw_p67 : lw_okq (⟨"LinkHarbourModel$Linked", "ofName", "(II)I"⟩, 25) := ⟨⟨by decide +kernel, by decide +kernel⟩, List.mem_of_getElem? (i := 1682) (by decide +kernel), List.mem_of_getElem? (i := 1881) (by decide +kernel), List.mem_of_getElem? (i := 1882) (by decide +kernel)⟩
theorem lw_p68 : lw_okq (⟨"LinkHarbourModel", "isLibrary", "(I)Z"⟩, 30) := ⟨⟨by decide +kernel, by decide +kernel⟩, List.mem_of_getElem? (i := 1471) (by decide +kernel), List.mem_of_getElem? (i := 1901) (by decide +kernel), List.mem_of_getElem? (i := 1902) (by decide +kernel)⟩
theorem lw_p69 : lw_okq (⟨"LinkHarbourModel", "rowOf", "(I)[I"⟩, 30) := ⟨⟨by decide +kernel, by decide +kernel⟩, List.mem_of_getElem? (i := 1471) (by decide +kernel), List.mem_of_getElem? (i := 1905) (by decide +kernel), List.mem_of_getElem? (i := 1906) (by decide +kernel)⟩
theorem lw_p70 : lw_okq (⟨"LinkHarbourModel", "isLoaded", "(I)Z"⟩, 30) := ⟨⟨by decide +kernel, by decide +kernel⟩, List.mem_of_getElem? (i := 1471) (by decide +kernel), List.mem_of_getElem? (i := 1916) (by decide +kernel), List.mem_of_getElem? (i := 1917) (by decide +kernel)⟩
theorem lw_p71 : lw_okq (⟨"LinkHarbourModel", "baseNow", "()I"⟩, 30) := ⟨⟨by decide +kernel, by decide +kernel⟩, List.mem_of_getElem? (i := 1471) (by decide +kernel), List.mem_of_getElem? (i := 1920) (by decide +kernel), List.mem_of_getElem? (i := 1921) (by decide +kernel)⟩
theorem lw_p72 : lw_okq (⟨"LinkHarbourModel", "go", "(III)I"⟩, 30) := ⟨⟨by decide +kernel, by decide +kernel⟩, List.mem_of_getElem? (i := 1471) (by decide +kernel), List.mem_of_getElem? (i := 1924) (by decide +kernel), List.mem_of_getElem? (i := 1925) (by decide +kernel)⟩
theorem lw_p73 : lw_okq (⟨"LinkHarbourModel", "goesNow", "(I)I"⟩, 30) := ⟨⟨by decide +kernel, by decide +kernel⟩, List.mem_of_getElem? (i := 1471) (by decide +kernel), List.mem_of_getElem? (i := 1932) (by decide +kernel), List.mem_of_getElem? (i := 1933) (by decide +kernel)⟩
theorem lw_p74 : lw_okq (⟨"LinkHarbourModel", "canCall", "(II)Z"⟩, 30) := ⟨⟨by decide +kernel, by decide +kernel⟩, List.mem_of_getElem? (i := 1471) (by decide +kernel), List.mem_of_getElem? (i := 1943) (by decide +kernel), List.mem_of_getElem? (i := 1944) (by decide +kernel)⟩
theorem lw_p75 : lw_okq (⟨"LinkHarbourModel", "find", "(II)I"⟩, 30) := ⟨⟨by decide +kernel, by decide +kernel⟩, List.mem_of_getElem? (i := 1471) (by decide +kernel), List.mem_of_getElem? (i := 1947) (by decide +kernel), List.mem_of_getElem? (i := 1948) (by decide +kernel)⟩
theorem lw_p76 : lw_okq (⟨"LinkHarbourModel", "ofBindingNow", "(III)I"⟩, 30) := ⟨⟨by decide +kernel, by decide +kernel⟩, List.mem_of_getElem? (i := 1471) (by decide +kernel), List.mem_of_getElem? (i := 1955) (by decide +kernel), List.mem_of_getElem? (i := 1956) (by decide +kernel)⟩
theorem lw_p77 : lw_okq (⟨"LinkHarbourModel", "ofLibraryNow", "(II)I"⟩, 30) := ⟨⟨by decide +kernel, by decide +kernel⟩, List.mem_of_getElem? (i := 1471) (by decide +kernel), List.mem_of_getElem? (i := 1963) (by decide +kernel), List.mem_of_getElem? (i := 1964) (by decide +kernel)⟩
theorem lw_p78 : lw_okq (⟨"LinkHarbourModel", "exports", "(I)I"⟩, 30) := ⟨⟨by decide +kernel, by decide +kernel⟩, List.mem_of_getElem? (i := 1471) (by decide +kernel), List.mem_of_getElem? (i := 1967) (by decide +kernel), List.mem_of_getElem? (i := 1968) (by decide +kernel)⟩
theorem lw_p79 : lw_okq (⟨"LinkHarbourModel", "manyNow", "(I)I"⟩, 30) := ⟨⟨by decide +kernel, by decide +kernel⟩, List.mem_of_getElem? (i := 1471) (by decide +kernel), List.mem_of_getElem? (i := 1978) (by decide +kernel), List.mem_of_getElem? (i := 1979) (by decide +kernel)⟩
def lw_privs_5 : List (MethodName × Nat) := [(⟨"LinkHarbourModel$Linked", "longOf", "(I)I"⟩, 25), (⟨"LinkHarbourModel", "ofSectionNow", "(II)I"⟩, 30), (⟨"LinkHarbourModel", "ofNameNow", "(II)I"⟩, 30), (⟨"LinkHarbourModel$Linked", "ofName", "(II)I"⟩, 25), (⟨"LinkHarbourModel", "isLibrary", "(I)Z"⟩, 30), (⟨"LinkHarbourModel", "rowOf", "(I)[I"⟩, 30), (⟨"LinkHarbourModel", "isLoaded", "(I)Z"⟩, 30), (⟨"LinkHarbourModel", "baseNow", "()I"⟩, 30), (⟨"LinkHarbourModel", "go", "(III)I"⟩, 30), (⟨"LinkHarbourModel", "goesNow", "(I)I"⟩, 30), (⟨"LinkHarbourModel", "canCall", "(II)Z"⟩, 30), (⟨"LinkHarbourModel", "find", "(II)I"⟩, 30), (⟨"LinkHarbourModel", "ofBindingNow", "(III)I"⟩, 30), (⟨"LinkHarbourModel", "ofLibraryNow", "(II)I"⟩, 30), (⟨"LinkHarbourModel", "exports", "(I)I"⟩, 30), (⟨"LinkHarbourModel", "manyNow", "(I)I"⟩, 30)]
theorem lw_r5 : ∀ q ∈ lw_privs_5, lw_okq q := List.forall_mem_cons.mpr ⟨lw_p64, List.forall_mem_cons.mpr ⟨lw_p65, List.forall_mem_cons.mpr ⟨lw_p66, List.forall_mem_cons.mpr ⟨lw_p67, List.forall_mem_cons.mpr ⟨lw_p68, List.forall_mem_cons.mpr ⟨lw_p69, List.forall_mem_cons.mpr ⟨lw_p70, List.forall_mem_cons.mpr ⟨lw_p71, List.forall_mem_cons.mpr ⟨lw_p72, List.forall_mem_cons.mpr ⟨lw_p73, List.forall_mem_cons.mpr ⟨lw_p74, List.forall_mem_cons.mpr ⟨lw_p75, List.forall_mem_cons.mpr ⟨lw_p76, List.forall_mem_cons.mpr ⟨lw_p77, List.forall_mem_cons.mpr ⟨lw_p78, List.forall_mem_cons.mpr ⟨lw_p79, fun _ h => absurd h List.not_mem_nil⟩⟩⟩⟩⟩⟩⟩⟩⟩⟩⟩⟩⟩⟩⟩⟩
theorem lw_p80 : lw_okq (⟨"LinkHarbourModel$Linked", "reachedSections", "()I"⟩, 25) := ⟨⟨by decide +kernel, by decide +kernel⟩, List.mem_of_getElem? (i := 1682) (by decide +kernel), List.mem_of_getElem? (i := 1982) (by decide +kernel), List.mem_of_getElem? (i := 1983) (by decide +kernel)⟩
theorem lw_p81 : lw_okq (⟨"LinkHarbourModel$Linked", "allLong", "()I"⟩, 25) := ⟨⟨by decide +kernel, by decide +kernel⟩, List.mem_of_getElem? (i := 1682) (by decide +kernel), List.mem_of_getElem? (i := 1986) (by decide +kernel), List.mem_of_getElem? (i := 1987) (by decide +kernel)⟩
theorem lw_p82 : lw_okq (⟨"LinkHarbourModel", "wouldBindNow", "(II)I"⟩, 30) := ⟨⟨by decide +kernel, by decide +kernel⟩, List.mem_of_getElem? (i := 1471) (by decide +kernel), List.mem_of_getElem? (i := 2010) (by decide +kernel), List.mem_of_getElem? (i := 2011) (by decide +kernel)⟩
def lw_privs_6 : List (MethodName × Nat) := [(⟨"LinkHarbourModel$Linked", "reachedSections", "()I"⟩, 25), (⟨"LinkHarbourModel$Linked", "allLong", "()I"⟩, 25), (⟨"LinkHarbourModel", "wouldBindNow", "(II)I"⟩, 30)]
theorem lw_r6 : ∀ q ∈ lw_privs_6, lw_okq q := List.forall_mem_cons.mpr ⟨lw_p80, List.forall_mem_cons.mpr ⟨lw_p81, List.forall_mem_cons.mpr ⟨lw_p82, fun _ h => absurd h List.not_mem_nil⟩⟩⟩
def lw_privs : List (MethodName × Nat) := lw_privs_1 ++ (lw_privs_2 ++ (lw_privs_3 ++ (lw_privs_4 ++ (lw_privs_5 ++ (lw_privs_6)))))
def lw_tbl : List Cond := k2_sels lw_privs ++ tables_1
theorem lw_privs_ok : ∀ q ∈ lw_privs, lw_okq q := by
  show ∀ q ∈ lw_privs_1 ++ (lw_privs_2 ++ (lw_privs_3 ++ (lw_privs_4 ++ (lw_privs_5 ++ (lw_privs_6))))), lw_okq q
  exact List.forall_mem_append.mpr ⟨lw_r1, List.forall_mem_append.mpr ⟨lw_r2, List.forall_mem_append.mpr ⟨lw_r3, List.forall_mem_append.mpr ⟨lw_r4, List.forall_mem_append.mpr ⟨lw_r5, lw_r6⟩⟩⟩⟩⟩
/-- the streams that the claim lets the run draw from -/
abbrev lw_cs : List Choice := [Jvm.Choice.named "NaN.bits"]
theorem lw_bits : nanBits ∈ lw_cs := by first | decide | exact List.mem_cons_self | simp [lw_cs, nanBits]

def RX0 : String := "LinkHarbour$FaultList"
def TX0 : u_T := fun k => match k with
  | 0 => ("LinkHarbour$FaultList", "parts", "[I", true)
  | _ => ("LinkHarbour$FaultList", "count", "I", false)
def tyX0 : Nat → FieldType := fun k => match k with
  | 0 => .array .int
  | _ => .int
theorem nmX0 : ∀ a, a < 2 → ∀ b, b < 2 → a ≠ b → (TX0 a).2.1 ≠ (TX0 b).2.1 := by decide +kernel
theorem tyX0_ok : ∀ k, k < 2 → parseFieldDescriptor (TX0 k).2.2.1 = some (tyX0 k) := by decide +kernel
abbrev cX0_init : ByteArray := prog_2_method_1_code
def yX0_init : MethodName := ⟨RX0, "<init>", "()V"⟩
abbrev cX0_count : ByteArray := prog_2_method_2_code
def yX0_count : MethodName := ⟨RX0, "count", "()I"⟩
abbrev cX0_forget : ByteArray := prog_2_method_3_code
def yX0_forget : MethodName := ⟨RX0, "forget", "()V"⟩
abbrev cX0_add : ByteArray := prog_2_method_4_code
def yX0_add : MethodName := ⟨RX0, "add", "(IIII)V"⟩
abbrev cX0_part : ByteArray := prog_2_method_5_code
def yX0_part : MethodName := ⟨RX0, "part", "(II)I"⟩
def RX1 : String := "LinkHarbour$Image"
def TX1 : u_T := fun k => match k with
  | _ => ("LinkHarbour$Image", "words", "[I", false)
def tyX1 : Nat → FieldType := fun k => match k with
  | _ => .array .int
theorem nmX1 : ∀ a, a < 1 → ∀ b, b < 1 → a ≠ b → (TX1 a).2.1 ≠ (TX1 b).2.1 := by decide +kernel
theorem tyX1_ok : ∀ k, k < 1 → parseFieldDescriptor (TX1 k).2.2.1 = some (tyX1 k) := by decide +kernel
abbrev cX1_init : ByteArray := prog_3_method_1_code
def yX1_init : MethodName := ⟨RX1, "<init>", "()V"⟩
abbrev cX1_clearUpTo : ByteArray := prog_3_method_2_code
def yX1_clearUpTo : MethodName := ⟨RX1, "clearUpTo", "(I)V"⟩
abbrev cX1_put : ByteArray := prog_3_method_3_code
def yX1_put : MethodName := ⟨RX1, "put", "(II)V"⟩
abbrev cX1_read : ByteArray := prog_3_method_4_code
def yX1_read : MethodName := ⟨RX1, "read", "(I)I"⟩
def RX2 : String := "LinkHarbour$ItemRow"
def TX2 : u_T := fun k => match k with
  | 0 => ("LinkHarbour$ItemRow", "sets", "[I", true)
  | 1 => ("LinkHarbour$ItemRow", "kinds", "[I", true)
  | _ => ("LinkHarbour$ItemRow", "count", "I", false)
def tyX2 : Nat → FieldType := fun k => match k with
  | 0 => .array .int
  | 1 => .array .int
  | _ => .int
theorem nmX2 : ∀ a, a < 3 → ∀ b, b < 3 → a ≠ b → (TX2 a).2.1 ≠ (TX2 b).2.1 := by decide +kernel
theorem tyX2_ok : ∀ k, k < 3 → parseFieldDescriptor (TX2 k).2.2.1 = some (tyX2 k) := by decide +kernel
abbrev cX2_init : ByteArray := prog_4_method_1_code
def yX2_init : MethodName := ⟨RX2, "<init>", "()V"⟩
abbrev cX2_count : ByteArray := prog_4_method_2_code
def yX2_count : MethodName := ⟨RX2, "count", "()I"⟩
abbrev cX2_isFull : ByteArray := prog_4_method_3_code
def yX2_isFull : MethodName := ⟨RX2, "isFull", "()Z"⟩
abbrev cX2_add : ByteArray := prog_4_method_4_code
def yX2_add : MethodName := ⟨RX2, "add", "(II)I"⟩
abbrev cX2_removeAll : ByteArray := prog_4_method_5_code
def yX2_removeAll : MethodName := ⟨RX2, "removeAll", "()I"⟩
abbrev cX2_hasAny : ByteArray := prog_4_method_6_code
def yX2_hasAny : MethodName := ⟨RX2, "hasAny", "(I)Z"⟩
abbrev cX2_itemOf : ByteArray := prog_4_method_7_code
def yX2_itemOf : MethodName := ⟨RX2, "itemOf", "(I)I"⟩
abbrev cX2_set : ByteArray := prog_4_method_8_code
def yX2_set : MethodName := ⟨RX2, "set", "(I)I"⟩
abbrev cX2_isPlain : ByteArray := prog_4_method_9_code
def yX2_isPlain : MethodName := ⟨RX2, "isPlain", "(I)Z"⟩
abbrev cX2_joinsAhead : ByteArray := prog_4_method_10_code
def yX2_joinsAhead : MethodName := ⟨RX2, "joinsAhead", "(I)Z"⟩
abbrev cX2_groupEnd : ByteArray := prog_4_method_11_code
def yX2_groupEnd : MethodName := ⟨RX2, "groupEnd", "(I)I"⟩
def RX3 : String := "LinkHarbour$Layout"
def TX3 : u_T := fun k => match k with
  | 0 => ("LinkHarbour$Layout", "sections", "LLinkHarbour$SectionTable;", true)
  | 1 => ("LinkHarbour$Layout", "taking", "LLinkHarbour$Taking;", true)
  | 2 => ("LinkHarbour$Layout", "settling", "LLinkHarbour$Settling;", true)
  | 3 => ("LinkHarbour$Layout", "reaching", "LLinkHarbour$Reaching;", true)
  | 4 => ("LinkHarbour$Layout", "order", "[I", true)
  | 5 => ("LinkHarbour$Layout", "laid", "I", false)
  | 6 => ("LinkHarbour$Layout", "addressOf", "[I", true)
  | 7 => ("LinkHarbour$Layout", "wordsOf", "[I", true)
  | 8 => ("LinkHarbour$Layout", "longsOf", "[I", true)
  | 9 => ("LinkHarbour$Layout", "width", "[I", true)
  | 10 => ("LinkHarbour$Layout", "addressOfName", "[I", true)
  | 11 => ("LinkHarbour$Layout", "size", "I", false)
  | _ => ("LinkHarbour$Layout", "used", "I", false)
def tyX3 : Nat → FieldType := fun k => match k with
  | 0 => .object "LinkHarbour$SectionTable"
  | 1 => .object "LinkHarbour$Taking"
  | 2 => .object "LinkHarbour$Settling"
  | 3 => .object "LinkHarbour$Reaching"
  | 4 => .array .int
  | 5 => .int
  | 6 => .array .int
  | 7 => .array .int
  | 8 => .array .int
  | 9 => .array .int
  | 10 => .array .int
  | 11 => .int
  | _ => .int
theorem nmX3 : ∀ a, a < 13 → ∀ b, b < 13 → a ≠ b → (TX3 a).2.1 ≠ (TX3 b).2.1 := by decide +kernel
theorem tyX3_ok : ∀ k, k < 13 → parseFieldDescriptor (TX3 k).2.2.1 = some (tyX3 k) := by decide +kernel
abbrev cX3_init : ByteArray := prog_5_method_1_code
def yX3_init : MethodName := ⟨RX3, "<init>", "(LLinkHarbour$SectionTable;LLinkHarbour$Taking;LLinkHarbour$Settling;LLinkHarbour$Reaching;)V"⟩
abbrev cX3_size : ByteArray := prog_5_method_2_code
def yX3_size : MethodName := ⟨RX3, "size", "()I"⟩
abbrev cX3_used : ByteArray := prog_5_method_3_code
def yX3_used : MethodName := ⟨RX3, "used", "()I"⟩
abbrev cX3_laid : ByteArray := prog_5_method_4_code
def yX3_laid : MethodName := ⟨RX3, "laid", "()I"⟩
abbrev cX3_sectionAt : ByteArray := prog_5_method_5_code
def yX3_sectionAt : MethodName := ⟨RX3, "sectionAt", "(I)I"⟩
abbrev cX3_addressOf : ByteArray := prog_5_method_6_code
def yX3_addressOf : MethodName := ⟨RX3, "addressOf", "(I)I"⟩
abbrev cX3_wordsOf : ByteArray := prog_5_method_7_code
def yX3_wordsOf : MethodName := ⟨RX3, "wordsOf", "(I)I"⟩
abbrev cX3_longsOf : ByteArray := prog_5_method_8_code
def yX3_longsOf : MethodName := ⟨RX3, "longsOf", "(I)I"⟩
abbrev cX3_countLongs : ByteArray := prog_5_method_9_code
def yX3_countLongs : MethodName := ⟨RX3, "countLongs", "()I"⟩
abbrev cX3_addressOfName : ByteArray := prog_5_method_10_code
def yX3_addressOfName : MethodName := ⟨RX3, "addressOfName", "(I)I"⟩
abbrev cX3_standsFor : ByteArray := prog_5_method_11_code
def yX3_standsFor : MethodName := ⟨RX3, "standsFor", "(I)I"⟩
abbrev cX3_width : ByteArray := prog_5_method_12_code
def yX3_width : MethodName := ⟨RX3, "width", "(II)I"⟩
abbrev cX3_layOut : ByteArray := prog_5_method_13_code
def yX3_layOut : MethodName := ⟨RX3, "layOut", "(I)V"⟩
abbrev cX3_orderSections : ByteArray := prog_5_method_14_code
def yX3_orderSections : MethodName := ⟨RX3, "orderSections", "()V"⟩
abbrev cX3_append : ByteArray := prog_5_method_15_code
def yX3_append : MethodName := ⟨RX3, "append", "(I)V"⟩
abbrev cX3_placeSections : ByteArray := prog_5_method_16_code
def yX3_placeSections : MethodName := ⟨RX3, "placeSections", "()V"⟩
abbrev cX3_placeCommons : ByteArray := prog_5_method_17_code
def yX3_placeCommons : MethodName := ⟨RX3, "placeCommons", "()V"⟩
abbrev cX3_addressNames : ByteArray := prog_5_method_18_code
def yX3_addressNames : MethodName := ⟨RX3, "addressNames", "()V"⟩
abbrev cX3_wordsAhead : ByteArray := prog_5_method_19_code
def yX3_wordsAhead : MethodName := ⟨RX3, "wordsAhead", "(II)I"⟩
abbrev cX3_lengthenAll : ByteArray := prog_5_method_20_code
def yX3_lengthenAll : MethodName := ⟨RX3, "lengthenAll", "(I)Z"⟩
abbrev cX3_lengthenIn : ByteArray := prog_5_method_21_code
def yX3_lengthenIn : MethodName := ⟨RX3, "lengthenIn", "(II)Z"⟩
def RX4 : String := "LinkHarbour$LibraryTable"
def TX4 : u_T := fun k => match k with
  | 0 => ("LinkHarbour$LibraryTable", "sizeOf", "[I", true)
  | 1 => ("LinkHarbour$LibraryTable", "needsOf", "[I", true)
  | 2 => ("LinkHarbour$LibraryTable", "exportsOf", "[I", true)
  | 3 => ("LinkHarbour$LibraryTable", "importsOf", "[I", true)
  | 4 => ("LinkHarbour$LibraryTable", "addressOf", "[I", true)
  | 5 => ("LinkHarbour$LibraryTable", "openedOf", "[I", true)
  | 6 => ("LinkHarbour$LibraryTable", "baseOf", "[I", true)
  | 7 => ("LinkHarbour$LibraryTable", "boundTo", "[I", true)
  | 8 => ("LinkHarbour$LibraryTable", "global", "[I", true)
  | 9 => ("LinkHarbour$LibraryTable", "initialised", "[I", true)
  | 10 => ("LinkHarbour$LibraryTable", "row", "[I", true)
  | 11 => ("LinkHarbour$LibraryTable", "way", "[I", true)
  | 12 => ("LinkHarbour$LibraryTable", "rowSet", "I", false)
  | 13 => ("LinkHarbour$LibraryTable", "count", "I", false)
  | 14 => ("LinkHarbour$LibraryTable", "globalCount", "I", false)
  | _ => ("LinkHarbour$LibraryTable", "initialisedCount", "I", false)
def tyX4 : Nat → FieldType := fun k => match k with
  | 0 => .array .int
  | 1 => .array .int
  | 2 => .array .int
  | 3 => .array .int
  | 4 => .array .int
  | 5 => .array .int
  | 6 => .array .int
  | 7 => .array .int
  | 8 => .array .int
  | 9 => .array .int
  | 10 => .array .int
  | 11 => .array .int
  | 12 => .int
  | 13 => .int
  | 14 => .int
  | _ => .int
theorem nmX4 : ∀ a, a < 16 → ∀ b, b < 16 → a ≠ b → (TX4 a).2.1 ≠ (TX4 b).2.1 := by decide +kernel
theorem tyX4_ok : ∀ k, k < 16 → parseFieldDescriptor (TX4 k).2.2.1 = some (tyX4 k) := by decide +kernel
abbrev cX4_init : ByteArray := prog_6_method_1_code
def yX4_init : MethodName := ⟨RX4, "<init>", "()V"⟩
abbrev cX4_count : ByteArray := prog_6_method_2_code
def yX4_count : MethodName := ⟨RX4, "count", "()I"⟩
abbrev cX4_isFull : ByteArray := prog_6_method_3_code
def yX4_isFull : MethodName := ⟨RX4, "isFull", "()Z"⟩
abbrev cX4_has : ByteArray := prog_6_method_4_code
def yX4_has : MethodName := ⟨RX4, "has", "(I)Z"⟩
abbrev cX4_size : ByteArray := prog_6_method_5_code
def yX4_size : MethodName := ⟨RX4, "size", "(I)I"⟩
abbrev cX4_needs : ByteArray := prog_6_method_6_code
def yX4_needs : MethodName := ⟨RX4, "needs", "(I)I"⟩
abbrev cX4_exports : ByteArray := prog_6_method_7_code
def yX4_exports : MethodName := ⟨RX4, "exports", "(I)I"⟩
abbrev cX4_imports : ByteArray := prog_6_method_8_code
def yX4_imports : MethodName := ⟨RX4, "imports", "(I)I"⟩
abbrev cX4_opened : ByteArray := prog_6_method_9_code
def yX4_opened : MethodName := ⟨RX4, "opened", "(I)I"⟩
abbrev cX4_base : ByteArray := prog_6_method_10_code
def yX4_base : MethodName := ⟨RX4, "base", "(I)I"⟩
abbrev cX4_isLoaded : ByteArray := prog_6_method_11_code
def yX4_isLoaded : MethodName := ⟨RX4, "isLoaded", "(I)Z"⟩
abbrev cX4_isExport : ByteArray := prog_6_method_12_code
def yX4_isExport : MethodName := ⟨RX4, "isExport", "(II)Z"⟩
abbrev cX4_isImport : ByteArray := prog_6_method_13_code
def yX4_isImport : MethodName := ⟨RX4, "isImport", "(II)Z"⟩
abbrev cX4_exportAddress : ByteArray := prog_6_method_14_code
def yX4_exportAddress : MethodName := ⟨RX4, "exportAddress", "(II)I"⟩
abbrev cX4_boundTo : ByteArray := prog_6_method_15_code
def yX4_boundTo : MethodName := ⟨RX4, "boundTo", "(II)I"⟩
abbrev cX4_boundAddress : ByteArray := prog_6_method_16_code
def yX4_boundAddress : MethodName := ⟨RX4, "boundAddress", "(II)I"⟩
abbrev cX4_placeAmongGlobal : ByteArray := prog_6_method_17_code
def yX4_placeAmongGlobal : MethodName := ⟨RX4, "placeAmongGlobal", "(I)I"⟩
abbrev cX4_placeAmongInitialised : ByteArray := prog_6_method_18_code
def yX4_placeAmongInitialised : MethodName := ⟨RX4, "placeAmongInitialised", "(I)I"⟩
abbrev cX4_placeIn : ByteArray := prog_6_method_19_code
def yX4_placeIn : MethodName := ⟨RX4, "placeIn", "([III)I"⟩
abbrev cX4_countLoaded : ByteArray := prog_6_method_20_code
def yX4_countLoaded : MethodName := ⟨RX4, "countLoaded", "()I"⟩
abbrev cX4_countGlobal : ByteArray := prog_6_method_21_code
def yX4_countGlobal : MethodName := ⟨RX4, "countGlobal", "()I"⟩
abbrev cX4_countBindings : ByteArray := prog_6_method_22_code
def yX4_countBindings : MethodName := ⟨RX4, "countBindings", "()I"⟩
abbrev cX4_add : ByteArray := prog_6_method_23_code
def yX4_add : MethodName := ⟨RX4, "add", "(LLinkHarbour$Link;I)I"⟩
abbrev cX4_neededNow : ByteArray := prog_6_method_24_code
def yX4_neededNow : MethodName := ⟨RX4, "neededNow", "(I)I"⟩
abbrev cX4_loaded : ByteArray := prog_6_method_25_code
def yX4_loaded : MethodName := ⟨RX4, "loaded", "()I"⟩
abbrev cX4_fillRow : ByteArray := prog_6_method_26_code
def yX4_fillRow : MethodName := ⟨RX4, "fillRow", "(I)I"⟩
abbrev cX4_openOne : ByteArray := prog_6_method_27_code
def yX4_openOne : MethodName := ⟨RX4, "openOne", "(IZ)I"⟩
abbrev cX4_load : ByteArray := prog_6_method_28_code
def yX4_load : MethodName := ⟨RX4, "load", "(I)V"⟩
abbrev cX4_makeGlobal : ByteArray := prog_6_method_29_code
def yX4_makeGlobal : MethodName := ⟨RX4, "makeGlobal", "(I)V"⟩
abbrev cX4_initialise : ByteArray := prog_6_method_30_code
def yX4_initialise : MethodName := ⟨RX4, "initialise", "(II)V"⟩
abbrev cX4_lowestOf : ByteArray := prog_6_method_31_code
def yX4_lowestOf : MethodName := ⟨RX4, "lowestOf", "(I)I"⟩
abbrev cX4_closeOne : ByteArray := prog_6_method_32_code
def yX4_closeOne : MethodName := ⟨RX4, "closeOne", "(I)I"⟩
abbrev cX4_leavingBy : ByteArray := prog_6_method_33_code
def yX4_leavingBy : MethodName := ⟨RX4, "leavingBy", "(I)I"⟩
abbrev cX4_finish : ByteArray := prog_6_method_34_code
def yX4_finish : MethodName := ⟨RX4, "finish", "(I)V"⟩
abbrev cX4_without : ByteArray := prog_6_method_35_code
def yX4_without : MethodName := ⟨RX4, "without", "([III)I"⟩
abbrev cX4_bind : ByteArray := prog_6_method_36_code
def yX4_bind : MethodName := ⟨RX4, "bind", "(II)I"⟩
abbrev cX4_firstExporter : ByteArray := prog_6_method_37_code
def yX4_firstExporter : MethodName := ⟨RX4, "firstExporter", "(II)I"⟩
def RX5 : String := "LinkHarbour$Link"
def TX5 : u_T := fun k => match k with
  | 0 => ("LinkHarbour$Link", "sections", "LLinkHarbour$SectionTable;", true)
  | 1 => ("LinkHarbour$Link", "taking", "LLinkHarbour$Taking;", true)
  | 2 => ("LinkHarbour$Link", "settling", "LLinkHarbour$Settling;", true)
  | 3 => ("LinkHarbour$Link", "reaching", "LLinkHarbour$Reaching;", true)
  | 4 => ("LinkHarbour$Link", "layout", "LLinkHarbour$Layout;", true)
  | 5 => ("LinkHarbour$Link", "faults", "LLinkHarbour$FaultList;", true)
  | 6 => ("LinkHarbour$Link", "isDone", "Z", false)
  | 7 => ("LinkHarbour$Link", "isShared", "Z", false)
  | _ => ("LinkHarbour$Link", "entry", "I", false)
def tyX5 : Nat → FieldType := fun k => match k with
  | 0 => .object "LinkHarbour$SectionTable"
  | 1 => .object "LinkHarbour$Taking"
  | 2 => .object "LinkHarbour$Settling"
  | 3 => .object "LinkHarbour$Reaching"
  | 4 => .object "LinkHarbour$Layout"
  | 5 => .object "LinkHarbour$FaultList"
  | 6 => .boolean
  | 7 => .boolean
  | _ => .int
theorem nmX5 : ∀ a, a < 9 → ∀ b, b < 9 → a ≠ b → (TX5 a).2.1 ≠ (TX5 b).2.1 := by decide +kernel
theorem tyX5_ok : ∀ k, k < 9 → parseFieldDescriptor (TX5 k).2.2.1 = some (tyX5 k) := by decide +kernel
abbrev cX5_init : ByteArray := prog_7_method_1_code
def yX5_init : MethodName := ⟨RX5, "<init>", "(LLinkHarbour$ObjectTable;LLinkHarbour$SectionTable;LLinkHarbour$ItemRow;)V"⟩
abbrev cX5_isDone : ByteArray := prog_7_method_2_code
def yX5_isDone : MethodName := ⟨RX5, "isDone", "()Z"⟩
abbrev cX5_isShared : ByteArray := prog_7_method_3_code
def yX5_isShared : MethodName := ⟨RX5, "isShared", "()Z"⟩
abbrev cX5_entry : ByteArray := prog_7_method_4_code
def yX5_entry : MethodName := ⟨RX5, "entry", "()I"⟩
abbrev cX5_run : ByteArray := prog_7_method_5_code
def yX5_run : MethodName := ⟨RX5, "run", "(IZIII)V"⟩
abbrev cX5_tellFaults : ByteArray := prog_7_method_6_code
def yX5_tellFaults : MethodName := ⟨RX5, "tellFaults", "(I)V"⟩
abbrev cX5_tellFaultsOf : ByteArray := prog_7_method_7_code
def yX5_tellFaultsOf : MethodName := ⟨RX5, "tellFaultsOf", "(III)V"⟩
abbrev cX5_writeTo : ByteArray := prog_7_method_8_code
def yX5_writeTo : MethodName := ⟨RX5, "writeTo", "(LLinkHarbour$Image;)V"⟩
abbrev cX5_writePiece : ByteArray := prog_7_method_9_code
def yX5_writePiece : MethodName := ⟨RX5, "writePiece", "(LLinkHarbour$Image;III)V"⟩
def RX6 : String := "LinkHarbour$ObjectTable"
def TX6 : u_T := fun k => match k with
  | 0 => ("LinkHarbour$ObjectTable", "defined", "[I", true)
  | 1 => ("LinkHarbour$ObjectTable", "offered", "[I", true)
  | 2 => ("LinkHarbour$ObjectTable", "needed", "[I", true)
  | 3 => ("LinkHarbour$ObjectTable", "kindOf", "[I", true)
  | 4 => ("LinkHarbour$ObjectTable", "sectionOf", "[I", true)
  | 5 => ("LinkHarbour$ObjectTable", "placeOf", "[I", true)
  | 6 => ("LinkHarbour$ObjectTable", "sizeOf", "[I", true)
  | 7 => ("LinkHarbour$ObjectTable", "alignOf", "[I", true)
  | 8 => ("LinkHarbour$ObjectTable", "hidden", "[I", true)
  | _ => ("LinkHarbour$ObjectTable", "count", "I", false)
def tyX6 : Nat → FieldType := fun k => match k with
  | 0 => .array .int
  | 1 => .array .int
  | 2 => .array .int
  | 3 => .array .int
  | 4 => .array .int
  | 5 => .array .int
  | 6 => .array .int
  | 7 => .array .int
  | 8 => .array .int
  | _ => .int
theorem nmX6 : ∀ a, a < 10 → ∀ b, b < 10 → a ≠ b → (TX6 a).2.1 ≠ (TX6 b).2.1 := by decide +kernel
theorem tyX6_ok : ∀ k, k < 10 → parseFieldDescriptor (TX6 k).2.2.1 = some (tyX6 k) := by decide +kernel
abbrev cX6_init : ByteArray := prog_8_method_1_code
def yX6_init : MethodName := ⟨RX6, "<init>", "()V"⟩
abbrev cX6_count : ByteArray := prog_8_method_2_code
def yX6_count : MethodName := ⟨RX6, "count", "()I"⟩
abbrev cX6_isFull : ByteArray := prog_8_method_3_code
def yX6_isFull : MethodName := ⟨RX6, "isFull", "()Z"⟩
abbrev cX6_has : ByteArray := prog_8_method_4_code
def yX6_has : MethodName := ⟨RX6, "has", "(I)Z"⟩
abbrev cX6_hasAll : ByteArray := prog_8_method_5_code
def yX6_hasAll : MethodName := ⟨RX6, "hasAll", "(I)Z"⟩
abbrev cX6_add : ByteArray := prog_8_method_6_code
def yX6_add : MethodName := ⟨RX6, "add", "()I"⟩
abbrev cX6_defined : ByteArray := prog_8_method_7_code
def yX6_defined : MethodName := ⟨RX6, "defined", "(I)I"⟩
abbrev cX6_offered : ByteArray := prog_8_method_8_code
def yX6_offered : MethodName := ⟨RX6, "offered", "(I)I"⟩
abbrev cX6_needed : ByteArray := prog_8_method_9_code
def yX6_needed : MethodName := ⟨RX6, "needed", "(I)I"⟩
abbrev cX6_need : ByteArray := prog_8_method_10_code
def yX6_need : MethodName := ⟨RX6, "need", "(II)V"⟩
abbrev cX6_addDefinition : ByteArray := prog_8_method_11_code
def yX6_addDefinition : MethodName := ⟨RX6, "addDefinition", "(IIIII)V"⟩
abbrev cX6_hide : ByteArray := prog_8_method_12_code
def yX6_hide : MethodName := ⟨RX6, "hide", "(II)V"⟩
abbrev cX6_addCommon : ByteArray := prog_8_method_13_code
def yX6_addCommon : MethodName := ⟨RX6, "addCommon", "(IIII)V"⟩
abbrev cX6_kind : ByteArray := prog_8_method_14_code
def yX6_kind : MethodName := ⟨RX6, "kind", "(II)I"⟩
abbrev cX6_sectionOf : ByteArray := prog_8_method_15_code
def yX6_sectionOf : MethodName := ⟨RX6, "sectionOf", "(II)I"⟩
abbrev cX6_placeOf : ByteArray := prog_8_method_16_code
def yX6_placeOf : MethodName := ⟨RX6, "placeOf", "(II)I"⟩
abbrev cX6_size : ByteArray := prog_8_method_17_code
def yX6_size : MethodName := ⟨RX6, "size", "(II)I"⟩
abbrev cX6_align : ByteArray := prog_8_method_18_code
def yX6_align : MethodName := ⟨RX6, "align", "(II)I"⟩
abbrev cX6_isHidden : ByteArray := prog_8_method_19_code
def yX6_isHidden : MethodName := ⟨RX6, "isHidden", "(II)Z"⟩
def RX7 : String := "LinkHarbour$Reaching"
def TX7 : u_T := fun k => match k with
  | 0 => ("LinkHarbour$Reaching", "sections", "LLinkHarbour$SectionTable;", true)
  | 1 => ("LinkHarbour$Reaching", "taking", "LLinkHarbour$Taking;", true)
  | 2 => ("LinkHarbour$Reaching", "settling", "LLinkHarbour$Settling;", true)
  | 3 => ("LinkHarbour$Reaching", "found", "[I", true)
  | 4 => ("LinkHarbour$Reaching", "foundCount", "I", false)
  | 5 => ("LinkHarbour$Reaching", "sectionSet", "I", false)
  | 6 => ("LinkHarbour$Reaching", "commonSet", "I", false)
  | 7 => ("LinkHarbour$Reaching", "imports", "I", false)
  | _ => ("LinkHarbour$Reaching", "references", "[I", true)
def tyX7 : Nat → FieldType := fun k => match k with
  | 0 => .object "LinkHarbour$SectionTable"
  | 1 => .object "LinkHarbour$Taking"
  | 2 => .object "LinkHarbour$Settling"
  | 3 => .array .int
  | 4 => .int
  | 5 => .int
  | 6 => .int
  | 7 => .int
  | _ => .array .int
theorem nmX7 : ∀ a, a < 9 → ∀ b, b < 9 → a ≠ b → (TX7 a).2.1 ≠ (TX7 b).2.1 := by decide +kernel
theorem tyX7_ok : ∀ k, k < 9 → parseFieldDescriptor (TX7 k).2.2.1 = some (tyX7 k) := by decide +kernel
abbrev cX7_init : ByteArray := prog_9_method_1_code
def yX7_init : MethodName := ⟨RX7, "<init>", "(LLinkHarbour$SectionTable;LLinkHarbour$Taking;LLinkHarbour$Settling;)V"⟩
abbrev cX7_hasSection : ByteArray := prog_9_method_2_code
def yX7_hasSection : MethodName := ⟨RX7, "hasSection", "(I)Z"⟩
abbrev cX7_hasCommon : ByteArray := prog_9_method_3_code
def yX7_hasCommon : MethodName := ⟨RX7, "hasCommon", "(I)Z"⟩
abbrev cX7_countSections : ByteArray := prog_9_method_4_code
def yX7_countSections : MethodName := ⟨RX7, "countSections", "()I"⟩
abbrev cX7_imports : ByteArray := prog_9_method_5_code
def yX7_imports : MethodName := ⟨RX7, "imports", "()I"⟩
abbrev cX7_isImport : ByteArray := prog_9_method_6_code
def yX7_isImport : MethodName := ⟨RX7, "isImport", "(I)Z"⟩
abbrev cX7_references : ByteArray := prog_9_method_7_code
def yX7_references : MethodName := ⟨RX7, "references", "(I)I"⟩
abbrev cX7_reachAll : ByteArray := prog_9_method_8_code
def yX7_reachAll : MethodName := ⟨RX7, "reachAll", "(IZ)V"⟩
abbrev cX7_forget : ByteArray := prog_9_method_9_code
def yX7_forget : MethodName := ⟨RX7, "forget", "()V"⟩
abbrev cX7_follow : ByteArray := prog_9_method_10_code
def yX7_follow : MethodName := ⟨RX7, "follow", "(IZ)V"⟩
abbrev cX7_reachName : ByteArray := prog_9_method_11_code
def yX7_reachName : MethodName := ⟨RX7, "reachName", "(I)V"⟩
abbrev cX7_reachSection : ByteArray := prog_9_method_12_code
def yX7_reachSection : MethodName := ⟨RX7, "reachSection", "(I)V"⟩
def RX8 : String := "LinkHarbour$SectionTable"
def TX8 : u_T := fun k => match k with
  | 0 => ("LinkHarbour$SectionTable", "objectOf", "[I", true)
  | 1 => ("LinkHarbour$SectionTable", "alignOf", "[I", true)
  | 2 => ("LinkHarbour$SectionTable", "keptOf", "[Z", true)
  | 3 => ("LinkHarbour$SectionTable", "piecesOf", "[I", true)
  | 4 => ("LinkHarbour$SectionTable", "kindOf", "[I", true)
  | 5 => ("LinkHarbour$SectionTable", "valueOf", "[I", true)
  | 6 => ("LinkHarbour$SectionTable", "addedOf", "[I", true)
  | 7 => ("LinkHarbour$SectionTable", "weakOf", "[Z", true)
  | _ => ("LinkHarbour$SectionTable", "count", "I", false)
def tyX8 : Nat → FieldType := fun k => match k with
  | 0 => .array .int
  | 1 => .array .int
  | 2 => .array .boolean
  | 3 => .array .int
  | 4 => .array .int
  | 5 => .array .int
  | 6 => .array .int
  | 7 => .array .boolean
  | _ => .int
theorem nmX8 : ∀ a, a < 9 → ∀ b, b < 9 → a ≠ b → (TX8 a).2.1 ≠ (TX8 b).2.1 := by decide +kernel
theorem tyX8_ok : ∀ k, k < 9 → parseFieldDescriptor (TX8 k).2.2.1 = some (tyX8 k) := by decide +kernel
abbrev cX8_init : ByteArray := prog_10_method_1_code
def yX8_init : MethodName := ⟨RX8, "<init>", "()V"⟩
abbrev cX8_count : ByteArray := prog_10_method_2_code
def yX8_count : MethodName := ⟨RX8, "count", "()I"⟩
abbrev cX8_isFull : ByteArray := prog_10_method_3_code
def yX8_isFull : MethodName := ⟨RX8, "isFull", "()Z"⟩
abbrev cX8_has : ByteArray := prog_10_method_4_code
def yX8_has : MethodName := ⟨RX8, "has", "(I)Z"⟩
abbrev cX8_add : ByteArray := prog_10_method_5_code
def yX8_add : MethodName := ⟨RX8, "add", "(IIZ)I"⟩
abbrev cX8_isFilled : ByteArray := prog_10_method_6_code
def yX8_isFilled : MethodName := ⟨RX8, "isFilled", "(I)Z"⟩
abbrev cX8_addPiece : ByteArray := prog_10_method_7_code
def yX8_addPiece : MethodName := ⟨RX8, "addPiece", "(IIIIZ)I"⟩
abbrev cX8_objectOf : ByteArray := prog_10_method_8_code
def yX8_objectOf : MethodName := ⟨RX8, "objectOf", "(I)I"⟩
abbrev cX8_align : ByteArray := prog_10_method_9_code
def yX8_align : MethodName := ⟨RX8, "align", "(I)I"⟩
abbrev cX8_isKept : ByteArray := prog_10_method_10_code
def yX8_isKept : MethodName := ⟨RX8, "isKept", "(I)Z"⟩
abbrev cX8_pieces : ByteArray := prog_10_method_11_code
def yX8_pieces : MethodName := ⟨RX8, "pieces", "(I)I"⟩
abbrev cX8_countOf : ByteArray := prog_10_method_12_code
def yX8_countOf : MethodName := ⟨RX8, "countOf", "(I)I"⟩
abbrev cX8_hasPiece : ByteArray := prog_10_method_13_code
def yX8_hasPiece : MethodName := ⟨RX8, "hasPiece", "(II)Z"⟩
abbrev cX8_kind : ByteArray := prog_10_method_14_code
def yX8_kind : MethodName := ⟨RX8, "kind", "(II)I"⟩
abbrev cX8_isReference : ByteArray := prog_10_method_15_code
def yX8_isReference : MethodName := ⟨RX8, "isReference", "(II)Z"⟩
abbrev cX8_words : ByteArray := prog_10_method_16_code
def yX8_words : MethodName := ⟨RX8, "words", "(II)I"⟩
abbrev cX8_name : ByteArray := prog_10_method_17_code
def yX8_name : MethodName := ⟨RX8, "name", "(II)I"⟩
abbrev cX8_added : ByteArray := prog_10_method_18_code
def yX8_added : MethodName := ⟨RX8, "added", "(II)I"⟩
abbrev cX8_isWeak : ByteArray := prog_10_method_19_code
def yX8_isWeak : MethodName := ⟨RX8, "isWeak", "(II)Z"⟩
def RX9 : String := "LinkHarbour$Settling"
def TX9 : u_T := fun k => match k with
  | 0 => ("LinkHarbour$Settling", "objects", "LLinkHarbour$ObjectTable;", true)
  | 1 => ("LinkHarbour$Settling", "taking", "LLinkHarbour$Taking;", true)
  | 2 => ("LinkHarbour$Settling", "kindOf", "[I", true)
  | 3 => ("LinkHarbour$Settling", "objectOf", "[I", true)
  | 4 => ("LinkHarbour$Settling", "sectionOf", "[I", true)
  | 5 => ("LinkHarbour$Settling", "placeOf", "[I", true)
  | 6 => ("LinkHarbour$Settling", "sizeOf", "[I", true)
  | 7 => ("LinkHarbour$Settling", "alignOf", "[I", true)
  | 8 => ("LinkHarbour$Settling", "hidden", "I", false)
  | _ => ("LinkHarbour$Settling", "twiceStrong", "I", false)
def tyX9 : Nat → FieldType := fun k => match k with
  | 0 => .object "LinkHarbour$ObjectTable"
  | 1 => .object "LinkHarbour$Taking"
  | 2 => .array .int
  | 3 => .array .int
  | 4 => .array .int
  | 5 => .array .int
  | 6 => .array .int
  | 7 => .array .int
  | 8 => .int
  | _ => .int
theorem nmX9 : ∀ a, a < 10 → ∀ b, b < 10 → a ≠ b → (TX9 a).2.1 ≠ (TX9 b).2.1 := by decide +kernel
theorem tyX9_ok : ∀ k, k < 10 → parseFieldDescriptor (TX9 k).2.2.1 = some (tyX9 k) := by decide +kernel
abbrev cX9_init : ByteArray := prog_11_method_1_code
def yX9_init : MethodName := ⟨RX9, "<init>", "(LLinkHarbour$ObjectTable;LLinkHarbour$Taking;)V"⟩
abbrev cX9_forget : ByteArray := prog_11_method_2_code
def yX9_forget : MethodName := ⟨RX9, "forget", "()V"⟩
abbrev cX9_settle : ByteArray := prog_11_method_3_code
def yX9_settle : MethodName := ⟨RX9, "settle", "()V"⟩
abbrev cX9_weigh : ByteArray := prog_11_method_4_code
def yX9_weigh : MethodName := ⟨RX9, "weigh", "(II)V"⟩
abbrev cX9_adopt : ByteArray := prog_11_method_5_code
def yX9_adopt : MethodName := ⟨RX9, "adopt", "(III)V"⟩
abbrev cX9_kind : ByteArray := prog_11_method_6_code
def yX9_kind : MethodName := ⟨RX9, "kind", "(I)I"⟩
abbrev cX9_objectOf : ByteArray := prog_11_method_7_code
def yX9_objectOf : MethodName := ⟨RX9, "objectOf", "(I)I"⟩
abbrev cX9_sectionOf : ByteArray := prog_11_method_8_code
def yX9_sectionOf : MethodName := ⟨RX9, "sectionOf", "(I)I"⟩
abbrev cX9_placeOf : ByteArray := prog_11_method_9_code
def yX9_placeOf : MethodName := ⟨RX9, "placeOf", "(I)I"⟩
abbrev cX9_isHidden : ByteArray := prog_11_method_10_code
def yX9_isHidden : MethodName := ⟨RX9, "isHidden", "(I)Z"⟩
abbrev cX9_size : ByteArray := prog_11_method_11_code
def yX9_size : MethodName := ⟨RX9, "size", "(I)I"⟩
abbrev cX9_align : ByteArray := prog_11_method_12_code
def yX9_align : MethodName := ⟨RX9, "align", "(I)I"⟩
abbrev cX9_isTwiceStrong : ByteArray := prog_11_method_13_code
def yX9_isTwiceStrong : MethodName := ⟨RX9, "isTwiceStrong", "(I)Z"⟩
def RX10 : String := "LinkHarbour$Taking"
def TX10 : u_T := fun k => match k with
  | 0 => ("LinkHarbour$Taking", "objects", "LLinkHarbour$ObjectTable;", true)
  | 1 => ("LinkHarbour$Taking", "items", "LLinkHarbour$ItemRow;", true)
  | 2 => ("LinkHarbour$Taking", "order", "[I", true)
  | 3 => ("LinkHarbour$Taking", "count", "I", false)
  | 4 => ("LinkHarbour$Taking", "taken", "I", false)
  | 5 => ("LinkHarbour$Taking", "needed", "I", false)
  | _ => ("LinkHarbour$Taking", "defined", "I", false)
def tyX10 : Nat → FieldType := fun k => match k with
  | 0 => .object "LinkHarbour$ObjectTable"
  | 1 => .object "LinkHarbour$ItemRow"
  | 2 => .array .int
  | 3 => .int
  | 4 => .int
  | 5 => .int
  | _ => .int
theorem nmX10 : ∀ a, a < 7 → ∀ b, b < 7 → a ≠ b → (TX10 a).2.1 ≠ (TX10 b).2.1 := by decide +kernel
theorem tyX10_ok : ∀ k, k < 7 → parseFieldDescriptor (TX10 k).2.2.1 = some (tyX10 k) := by decide +kernel
abbrev cX10_init : ByteArray := prog_12_method_1_code
def yX10_init : MethodName := ⟨RX10, "<init>", "(LLinkHarbour$ObjectTable;LLinkHarbour$ItemRow;)V"⟩
abbrev cX10_count : ByteArray := prog_12_method_2_code
def yX10_count : MethodName := ⟨RX10, "count", "()I"⟩
abbrev cX10_objectAt : ByteArray := prog_12_method_3_code
def yX10_objectAt : MethodName := ⟨RX10, "objectAt", "(I)I"⟩
abbrev cX10_placeOf : ByteArray := prog_12_method_4_code
def yX10_placeOf : MethodName := ⟨RX10, "placeOf", "(I)I"⟩
abbrev cX10_isTaken : ByteArray := prog_12_method_5_code
def yX10_isTaken : MethodName := ⟨RX10, "isTaken", "(I)Z"⟩
abbrev cX10_take : ByteArray := prog_12_method_6_code
def yX10_take : MethodName := ⟨RX10, "take", "(II)V"⟩
abbrev cX10_takeAll : ByteArray := prog_12_method_7_code
def yX10_takeAll : MethodName := ⟨RX10, "takeAll", "(I)V"⟩
abbrev cX10_takeGroup : ByteArray := prog_12_method_8_code
def yX10_takeGroup : MethodName := ⟨RX10, "takeGroup", "(II)V"⟩
abbrev cX10_takeWanted : ByteArray := prog_12_method_9_code
def yX10_takeWanted : MethodName := ⟨RX10, "takeWanted", "(I)V"⟩
abbrev cX10_add : ByteArray := prog_12_method_10_code
def yX10_add : MethodName := ⟨RX10, "add", "(I)V"⟩
def RX11 : String := "LinkHarbour"
def TX11 : u_T := fun k => match k with
  | 0 => ("LinkHarbour", "objects", "LLinkHarbour$ObjectTable;", true)
  | 1 => ("LinkHarbour", "sections", "LLinkHarbour$SectionTable;", true)
  | 2 => ("LinkHarbour", "items", "LLinkHarbour$ItemRow;", true)
  | 3 => ("LinkHarbour", "libraries", "LLinkHarbour$LibraryTable;", true)
  | 4 => ("LinkHarbour", "image", "LLinkHarbour$Image;", true)
  | 5 => ("LinkHarbour", "latest", "LLinkHarbour$Link;", true)
  | 6 => ("LinkHarbour", "trial", "LLinkHarbour$Link;", true)
  | 7 => ("LinkHarbour", "reach", "I", false)
  | _ => ("LinkHarbour", "limit", "I", false)
def tyX11 : Nat → FieldType := fun k => match k with
  | 0 => .object "LinkHarbour$ObjectTable"
  | 1 => .object "LinkHarbour$SectionTable"
  | 2 => .object "LinkHarbour$ItemRow"
  | 3 => .object "LinkHarbour$LibraryTable"
  | 4 => .object "LinkHarbour$Image"
  | 5 => .object "LinkHarbour$Link"
  | 6 => .object "LinkHarbour$Link"
  | 7 => .int
  | _ => .int
theorem nmX11 : ∀ a, a < 9 → ∀ b, b < 9 → a ≠ b → (TX11 a).2.1 ≠ (TX11 b).2.1 := by decide +kernel
theorem tyX11_ok : ∀ k, k < 9 → parseFieldDescriptor (TX11 k).2.2.1 = some (tyX11 k) := by decide +kernel
abbrev cX11_init : ByteArray := prog_1_method_1_code
def yX11_init : MethodName := ⟨RX11, "<init>", "()V"⟩
abbrev cX11_object : ByteArray := prog_1_method_2_code
def yX11_object : MethodName := ⟨RX11, "object", "()I"⟩
abbrev cX11_section : ByteArray := prog_1_method_3_code
def yX11_section : MethodName := ⟨RX11, "section", "(IIZ)I"⟩
abbrev cX11_fill : ByteArray := prog_1_method_4_code
def yX11_fill : MethodName := ⟨RX11, "fill", "(II)I"⟩
abbrev cX11_word : ByteArray := prog_1_method_5_code
def yX11_word : MethodName := ⟨RX11, "word", "(IIIZ)I"⟩
abbrev cX11_jump : ByteArray := prog_1_method_6_code
def yX11_jump : MethodName := ⟨RX11, "jump", "(IIZ)I"⟩
abbrev cX11_define : ByteArray := prog_1_method_7_code
def yX11_define : MethodName := ⟨RX11, "define", "(IIZZ)I"⟩
abbrev cX11_common : ByteArray := prog_1_method_8_code
def yX11_common : MethodName := ⟨RX11, "common", "(IIII)I"⟩
abbrev cX11_item : ByteArray := prog_1_method_9_code
def yX11_item : MethodName := ⟨RX11, "item", "(II)I"⟩
abbrev cX11_clear : ByteArray := prog_1_method_10_code
def yX11_clear : MethodName := ⟨RX11, "clear", "()I"⟩
abbrev cX11_ofObject : ByteArray := prog_1_method_11_code
def yX11_ofObject : MethodName := ⟨RX11, "ofObject", "(II)I"⟩
abbrev cX11_bounds : ByteArray := prog_1_method_12_code
def yX11_bounds : MethodName := ⟨RX11, "bounds", "(II)I"⟩
abbrev cX11_link : ByteArray := prog_1_method_13_code
def yX11_link : MethodName := ⟨RX11, "link", "(IZ)I"⟩
abbrev cX11_ofSection : ByteArray := prog_1_method_14_code
def yX11_ofSection : MethodName := ⟨RX11, "ofSection", "(II)I"⟩
abbrev cX11_ofName : ByteArray := prog_1_method_15_code
def yX11_ofName : MethodName := ⟨RX11, "ofName", "(II)I"⟩
abbrev cX11_fault : ByteArray := prog_1_method_16_code
def yX11_fault : MethodName := ⟨RX11, "fault", "(II)I"⟩
abbrev cX11_wordAt : ByteArray := prog_1_method_17_code
def yX11_wordAt : MethodName := ⟨RX11, "wordAt", "(I)I"⟩
abbrev cX11_publish : ByteArray := prog_1_method_18_code
def yX11_publish : MethodName := ⟨RX11, "publish", "(I)I"⟩
abbrev cX11_open : ByteArray := prog_1_method_19_code
def yX11_open : MethodName := ⟨RX11, "open", "(IZ)I"⟩
abbrev cX11_close : ByteArray := prog_1_method_20_code
def yX11_close : MethodName := ⟨RX11, "close", "(I)I"⟩
abbrev cX11_call : ByteArray := prog_1_method_21_code
def yX11_call : MethodName := ⟨RX11, "call", "(II)I"⟩
abbrev cX11_ofBinding : ByteArray := prog_1_method_22_code
def yX11_ofBinding : MethodName := ⟨RX11, "ofBinding", "(III)I"⟩
abbrev cX11_ofLibrary : ByteArray := prog_1_method_23_code
def yX11_ofLibrary : MethodName := ⟨RX11, "ofLibrary", "(II)I"⟩
abbrev cX11_many : ByteArray := prog_1_method_24_code
def yX11_many : MethodName := ⟨RX11, "many", "(I)I"⟩
abbrev cX11_usedPart : ByteArray := prog_1_method_25_code
def yX11_usedPart : MethodName := ⟨RX11, "usedPart", "()D"⟩
abbrev cX11_sizeWith : ByteArray := prog_1_method_26_code
def yX11_sizeWith : MethodName := ⟨RX11, "sizeWith", "(I)I"⟩
abbrev cX11_faultsWithout : ByteArray := prog_1_method_27_code
def yX11_faultsWithout : MethodName := ⟨RX11, "faultsWithout", "(I)I"⟩
abbrev cX11_goes : ByteArray := prog_1_method_28_code
def yX11_goes : MethodName := ⟨RX11, "goes", "(I)I"⟩
abbrev cX11_wouldBind : ByteArray := prog_1_method_29_code
def yX11_wouldBind : MethodName := ⟨RX11, "wouldBind", "(II)I"⟩
abbrev cX11_digest : ByteArray := prog_1_method_30_code
def yX11_digest : MethodName := ⟨RX11, "digest", "()J"⟩
abbrev cX11_mixObjects : ByteArray := prog_1_method_31_code
def yX11_mixObjects : MethodName := ⟨RX11, "mixObjects", "(J)J"⟩
abbrev cX11_mixSections : ByteArray := prog_1_method_32_code
def yX11_mixSections : MethodName := ⟨RX11, "mixSections", "(J)J"⟩
abbrev cX11_mixNames : ByteArray := prog_1_method_33_code
def yX11_mixNames : MethodName := ⟨RX11, "mixNames", "(J)J"⟩
abbrev cX11_mixFaults : ByteArray := prog_1_method_34_code
def yX11_mixFaults : MethodName := ⟨RX11, "mixFaults", "(J)J"⟩
abbrev cX11_mixLibrary : ByteArray := prog_1_method_35_code
def yX11_mixLibrary : MethodName := ⟨RX11, "mixLibrary", "(JI)J"⟩
abbrev cX11_mix : ByteArray := prog_1_method_36_code
def yX11_mix : MethodName := ⟨RX11, "mix", "(JJ)J"⟩
abbrev cX11_isIn : ByteArray := prog_1_method_37_code
def yX11_isIn : MethodName := ⟨RX11, "isIn", "(II)Z"⟩
abbrev cX11_isName : ByteArray := prog_1_method_38_code
def yX11_isName : MethodName := ⟨RX11, "isName", "(I)Z"⟩
abbrev cX11_isAlign : ByteArray := prog_1_method_39_code
def yX11_isAlign : MethodName := ⟨RX11, "isAlign", "(I)Z"⟩
abbrev cX11_isReach : ByteArray := prog_1_method_40_code
def yX11_isReach : MethodName := ⟨RX11, "isReach", "(I)Z"⟩
abbrev cX11_hasBit : ByteArray := prog_1_method_41_code
def yX11_hasBit : MethodName := ⟨RX11, "hasBit", "(II)Z"⟩
abbrev cX11_roundUp : ByteArray := prog_1_method_42_code
def yX11_roundUp : MethodName := ⟨RX11, "roundUp", "(II)I"⟩
abbrev cX11_addReference : ByteArray := prog_1_method_43_code
def yX11_addReference : MethodName := ⟨RX11, "addReference", "(IIIIZ)I"⟩
def RX12 : String := "LinkHarbourModel$Linked"
def TX12 : u_T := fun k => match k with
  | 0 => ("LinkHarbourModel$Linked", "entry", "I", true)
  | 1 => ("LinkHarbourModel$Linked", "bound", "I", true)
  | 2 => ("LinkHarbourModel$Linked", "most", "I", true)
  | 3 => ("LinkHarbourModel$Linked", "isShared", "Z", true)
  | 4 => ("LinkHarbourModel$Linked", "taken", "I", false)
  | 5 => ("LinkHarbourModel$Linked", "order", "[I", true)
  | 6 => ("LinkHarbourModel$Linked", "takenAs", "[I", true)
  | 7 => ("LinkHarbourModel$Linked", "kindOf", "[I", true)
  | 8 => ("LinkHarbourModel$Linked", "objectOf", "[I", true)
  | 9 => ("LinkHarbourModel$Linked", "sizeOf", "[I", true)
  | 10 => ("LinkHarbourModel$Linked", "alignOf", "[I", true)
  | 11 => ("LinkHarbourModel$Linked", "addressOf", "[I", true)
  | 12 => ("LinkHarbourModel$Linked", "references", "[I", true)
  | 13 => ("LinkHarbourModel$Linked", "isReachedName", "[Z", true)
  | 14 => ("LinkHarbourModel$Linked", "isReached", "[Z", true)
  | 15 => ("LinkHarbourModel$Linked", "address", "[I", true)
  | 16 => ("LinkHarbourModel$Linked", "length", "[I", true)
  | 17 => ("LinkHarbourModel$Linked", "isLong", "[Z", true)
  | 18 => ("LinkHarbourModel$Linked", "imports", "I", false)
  | 19 => ("LinkHarbourModel$Linked", "size", "I", false)
  | 20 => ("LinkHarbourModel$Linked", "used", "I", false)
  | 21 => ("LinkHarbourModel$Linked", "many", "I", false)
  | 22 => ("LinkHarbourModel$Linked", "faults", "[I", false)
  | 23 => ("LinkHarbourModel$Linked", "words", "[I", false)
  | _ => ("LinkHarbourModel$Linked", "this$0", "LLinkHarbourModel;", true)
def tyX12 : Nat → FieldType := fun k => match k with
  | 0 => .int
  | 1 => .int
  | 2 => .int
  | 3 => .boolean
  | 4 => .int
  | 5 => .array .int
  | 6 => .array .int
  | 7 => .array .int
  | 8 => .array .int
  | 9 => .array .int
  | 10 => .array .int
  | 11 => .array .int
  | 12 => .array .int
  | 13 => .array .boolean
  | 14 => .array .boolean
  | 15 => .array .int
  | 16 => .array .int
  | 17 => .array .boolean
  | 18 => .int
  | 19 => .int
  | 20 => .int
  | 21 => .int
  | 22 => .array .int
  | 23 => .array .int
  | _ => .object "LinkHarbourModel"
theorem nmX12 : ∀ a, a < 25 → ∀ b, b < 25 → a ≠ b → (TX12 a).2.1 ≠ (TX12 b).2.1 := by decide +kernel
theorem tyX12_ok : ∀ k, k < 25 → parseFieldDescriptor (TX12 k).2.2.1 = some (tyX12 k) := by decide +kernel
abbrev cX12_init : ByteArray := prog_15_method_1_code
def yX12_init : MethodName := ⟨RX12, "<init>", "(LLinkHarbourModel;IZIII)V"⟩
abbrev cX12_endOf : ByteArray := prog_15_method_2_code
def yX12_endOf : MethodName := ⟨RX12, "endOf", "(I)I"⟩
abbrev cX12_take : ByteArray := prog_15_method_3_code
def yX12_take : MethodName := ⟨RX12, "take", "(III)V"⟩
abbrev cX12_isDrawn : ByteArray := prog_15_method_4_code
def yX12_isDrawn : MethodName := ⟨RX12, "isDrawn", "(I)Z"⟩
abbrev cX12_isWanted : ByteArray := prog_15_method_5_code
def yX12_isWanted : MethodName := ⟨RX12, "isWanted", "(I)Z"⟩
abbrev cX12_nameAt : ByteArray := prog_15_method_6_code
def yX12_nameAt : MethodName := ⟨RX12, "nameAt", "(II)I"⟩
abbrev cX12_firstWith : ByteArray := prog_15_method_7_code
def yX12_firstWith : MethodName := ⟨RX12, "firstWith", "(II)I"⟩
abbrev cX12_settle : ByteArray := prog_15_method_8_code
def yX12_settle : MethodName := ⟨RX12, "settle", "(I)V"⟩
abbrev cX12_fault : ByteArray := prog_15_method_9_code
def yX12_fault : MethodName := ⟨RX12, "fault", "(IIII)V"⟩
abbrev cX12_sectionOf : ByteArray := prog_15_method_10_code
def yX12_sectionOf : MethodName := ⟨RX12, "sectionOf", "(I)I"⟩
abbrev cX12_reachName : ByteArray := prog_15_method_11_code
def yX12_reachName : MethodName := ⟨RX12, "reachName", "(I)Z"⟩
abbrev cX12_reachAll : ByteArray := prog_15_method_12_code
def yX12_reachAll : MethodName := ⟨RX12, "reachAll", "()V"⟩
abbrev cX12_wordsOf : ByteArray := prog_15_method_13_code
def yX12_wordsOf : MethodName := ⟨RX12, "wordsOf", "(II)I"⟩
abbrev cX12_wordsUpTo : ByteArray := prog_15_method_14_code
def yX12_wordsUpTo : MethodName := ⟨RX12, "wordsUpTo", "(II)I"⟩
abbrev cX12_next : ByteArray := prog_15_method_15_code
def yX12_next : MethodName := ⟨RX12, "next", "(II)I"⟩
abbrev cX12_place : ByteArray := prog_15_method_16_code
def yX12_place : MethodName := ⟨RX12, "place", "()V"⟩
abbrev cX12_standsFor : ByteArray := prog_15_method_17_code
def yX12_standsFor : MethodName := ⟨RX12, "standsFor", "(I)I"⟩
abbrev cX12_layOut : ByteArray := prog_15_method_18_code
def yX12_layOut : MethodName := ⟨RX12, "layOut", "()V"⟩
abbrev cX12_write : ByteArray := prog_15_method_19_code
def yX12_write : MethodName := ⟨RX12, "write", "()V"⟩
abbrev cX12_writePiece : ByteArray := prog_15_method_20_code
def yX12_writePiece : MethodName := ⟨RX12, "writePiece", "(III)V"⟩
abbrev cX12_longOf : ByteArray := prog_15_method_21_code
def yX12_longOf : MethodName := ⟨RX12, "longOf", "(I)I"⟩
abbrev cX12_allLong : ByteArray := prog_15_method_22_code
def yX12_allLong : MethodName := ⟨RX12, "allLong", "()I"⟩
abbrev cX12_ofName : ByteArray := prog_15_method_23_code
def yX12_ofName : MethodName := ⟨RX12, "ofName", "(II)I"⟩
abbrev cX12_reachedSections : ByteArray := prog_15_method_24_code
def yX12_reachedSections : MethodName := ⟨RX12, "reachedSections", "()I"⟩
def RX13 : String := "LinkHarbourModel"
def TX13 : u_T := fun k => match k with
  | 0 => ("LinkHarbourModel", "thrown", "I", false)
  | 1 => ("LinkHarbourModel", "objects", "I", false)
  | 2 => ("LinkHarbourModel", "sections", "I", false)
  | 3 => ("LinkHarbourModel", "items", "I", false)
  | 4 => ("LinkHarbourModel", "owner", "[I", true)
  | 5 => ("LinkHarbourModel", "align", "[I", true)
  | 6 => ("LinkHarbourModel", "pieces", "[I", true)
  | 7 => ("LinkHarbourModel", "isKept", "[Z", true)
  | 8 => ("LinkHarbourModel", "piece", "[I", true)
  | 9 => ("LinkHarbourModel", "defined", "[I", true)
  | 10 => ("LinkHarbourModel", "where", "[I", true)
  | 11 => ("LinkHarbourModel", "ahead", "[I", true)
  | 12 => ("LinkHarbourModel", "isHidden", "[Z", true)
  | 13 => ("LinkHarbourModel", "itemSet", "[I", true)
  | 14 => ("LinkHarbourModel", "itemKind", "[I", true)
  | 15 => ("LinkHarbourModel", "reach", "I", false)
  | 16 => ("LinkHarbourModel", "limit", "I", false)
  | 17 => ("LinkHarbourModel", "wasLinked", "Z", false)
  | 18 => ("LinkHarbourModel", "latest", "LLinkHarbourModel$Linked;", false)
  | 19 => ("LinkHarbourModel", "longs", "[I", true)
  | 20 => ("LinkHarbourModel", "libraries", "I", false)
  | 21 => ("LinkHarbourModel", "sizes", "[I", true)
  | 22 => ("LinkHarbourModel", "needs", "[I", true)
  | 23 => ("LinkHarbourModel", "imports", "[I", true)
  | 24 => ("LinkHarbourModel", "counts", "[I", true)
  | 25 => ("LinkHarbourModel", "bases", "[I", true)
  | 26 => ("LinkHarbourModel", "exported", "[I", true)
  | 27 => ("LinkHarbourModel", "bound", "[I", true)
  | 28 => ("LinkHarbourModel", "global", "[I", false)
  | _ => ("LinkHarbourModel", "started", "[I", false)
def tyX13 : Nat → FieldType := fun k => match k with
  | 0 => .int
  | 1 => .int
  | 2 => .int
  | 3 => .int
  | 4 => .array .int
  | 5 => .array .int
  | 6 => .array .int
  | 7 => .array .boolean
  | 8 => .array .int
  | 9 => .array .int
  | 10 => .array .int
  | 11 => .array .int
  | 12 => .array .boolean
  | 13 => .array .int
  | 14 => .array .int
  | 15 => .int
  | 16 => .int
  | 17 => .boolean
  | 18 => .object "LinkHarbourModel$Linked"
  | 19 => .array .int
  | 20 => .int
  | 21 => .array .int
  | 22 => .array .int
  | 23 => .array .int
  | 24 => .array .int
  | 25 => .array .int
  | 26 => .array .int
  | 27 => .array .int
  | 28 => .array .int
  | _ => .array .int
theorem nmX13 : ∀ a, a < 30 → ∀ b, b < 30 → a ≠ b → (TX13 a).2.1 ≠ (TX13 b).2.1 := by decide +kernel
theorem tyX13_ok : ∀ k, k < 30 → parseFieldDescriptor (TX13 k).2.2.1 = some (tyX13 k) := by decide +kernel
abbrev cX13_init : ByteArray := prog_14_method_1_code
def yX13_init : MethodName := ⟨RX13, "<init>", "()V"⟩
abbrev cX13_thrown : ByteArray := prog_14_method_2_code
def yX13_thrown : MethodName := ⟨RX13, "thrown", "()I"⟩
abbrev cX13_no : ByteArray := prog_14_method_3_code
def yX13_no : MethodName := ⟨RX13, "no", "(I)I"⟩
abbrev cX13_isIn : ByteArray := prog_14_method_4_code
def yX13_isIn : MethodName := ⟨RX13, "isIn", "(III)Z"⟩
abbrev cX13_has : ByteArray := prog_14_method_5_code
def yX13_has : MethodName := ⟨RX13, "has", "(II)Z"⟩
abbrev cX13_isAlign : ByteArray := prog_14_method_6_code
def yX13_isAlign : MethodName := ⟨RX13, "isAlign", "(I)Z"⟩
abbrev cX13_isObject : ByteArray := prog_14_method_7_code
def yX13_isObject : MethodName := ⟨RX13, "isObject", "(I)Z"⟩
abbrev cX13_isSection : ByteArray := prog_14_method_8_code
def yX13_isSection : MethodName := ⟨RX13, "isSection", "(I)Z"⟩
abbrev cX13_isName : ByteArray := prog_14_method_9_code
def yX13_isName : MethodName := ⟨RX13, "isName", "(I)Z"⟩
abbrev cX13_object : ByteArray := prog_14_method_10_code
def yX13_object : MethodName := ⟨RX13, "object", "()I"⟩
abbrev cX13_section : ByteArray := prog_14_method_11_code
def yX13_section : MethodName := ⟨RX13, "section", "(IIZ)I"⟩
abbrev cX13_add : ByteArray := prog_14_method_12_code
def yX13_add : MethodName := ⟨RX13, "add", "(IIIIZ)I"⟩
abbrev cX13_fill : ByteArray := prog_14_method_13_code
def yX13_fill : MethodName := ⟨RX13, "fill", "(II)I"⟩
abbrev cX13_word : ByteArray := prog_14_method_14_code
def yX13_word : MethodName := ⟨RX13, "word", "(IIIZ)I"⟩
abbrev cX13_jump : ByteArray := prog_14_method_15_code
def yX13_jump : MethodName := ⟨RX13, "jump", "(IIZ)I"⟩
abbrev cX13_defineNow : ByteArray := prog_14_method_16_code
def yX13_defineNow : MethodName := ⟨RX13, "defineNow", "(IIIIIZ)I"⟩
abbrev cX13_define : ByteArray := prog_14_method_17_code
def yX13_define : MethodName := ⟨RX13, "define", "(IIZZ)I"⟩
abbrev cX13_definitions : ByteArray := prog_14_method_18_code
def yX13_definitions : MethodName := ⟨RX13, "definitions", "(I)I"⟩
abbrev cX13_common : ByteArray := prog_14_method_19_code
def yX13_common : MethodName := ⟨RX13, "common", "(IIII)I"⟩
abbrev cX13_itemOf : ByteArray := prog_14_method_20_code
def yX13_itemOf : MethodName := ⟨RX13, "itemOf", "(I)I"⟩
abbrev cX13_item : ByteArray := prog_14_method_21_code
def yX13_item : MethodName := ⟨RX13, "item", "(II)I"⟩
abbrev cX13_clear : ByteArray := prog_14_method_22_code
def yX13_clear : MethodName := ⟨RX13, "clear", "()I"⟩
abbrev cX13_sectionsOf : ByteArray := prog_14_method_23_code
def yX13_sectionsOf : MethodName := ⟨RX13, "sectionsOf", "(I)I"⟩
abbrev cX13_ofObjectNow : ByteArray := prog_14_method_24_code
def yX13_ofObjectNow : MethodName := ⟨RX13, "ofObjectNow", "(II)I"⟩
abbrev cX13_ofObject : ByteArray := prog_14_method_25_code
def yX13_ofObject : MethodName := ⟨RX13, "ofObject", "(II)I"⟩
abbrev cX13_bounds : ByteArray := prog_14_method_26_code
def yX13_bounds : MethodName := ⟨RX13, "bounds", "(II)I"⟩
abbrev cX13_link : ByteArray := prog_14_method_27_code
def yX13_link : MethodName := ⟨RX13, "link", "(IZ)I"⟩
abbrev cX13_ofSectionNow : ByteArray := prog_14_method_28_code
def yX13_ofSectionNow : MethodName := ⟨RX13, "ofSectionNow", "(II)I"⟩
abbrev cX13_ofSection : ByteArray := prog_14_method_29_code
def yX13_ofSection : MethodName := ⟨RX13, "ofSection", "(II)I"⟩
abbrev cX13_ofNameNow : ByteArray := prog_14_method_30_code
def yX13_ofNameNow : MethodName := ⟨RX13, "ofNameNow", "(II)I"⟩
abbrev cX13_ofName : ByteArray := prog_14_method_31_code
def yX13_ofName : MethodName := ⟨RX13, "ofName", "(II)I"⟩
abbrev cX13_fault : ByteArray := prog_14_method_32_code
def yX13_fault : MethodName := ⟨RX13, "fault", "(II)I"⟩
abbrev cX13_wordAt : ByteArray := prog_14_method_33_code
def yX13_wordAt : MethodName := ⟨RX13, "wordAt", "(I)I"⟩
abbrev cX13_isLibrary : ByteArray := prog_14_method_34_code
def yX13_isLibrary : MethodName := ⟨RX13, "isLibrary", "(I)Z"⟩
abbrev cX13_isLoaded : ByteArray := prog_14_method_35_code
def yX13_isLoaded : MethodName := ⟨RX13, "isLoaded", "(I)Z"⟩
abbrev cX13_publish : ByteArray := prog_14_method_36_code
def yX13_publish : MethodName := ⟨RX13, "publish", "(I)I"⟩
abbrev cX13_plus : ByteArray := prog_14_method_37_code
def yX13_plus : MethodName := ⟨RX13, "plus", "([II)[I"⟩
abbrev cX13_placeIn : ByteArray := prog_14_method_38_code
def yX13_placeIn : MethodName := ⟨RX13, "placeIn", "([II)I"⟩
abbrev cX13_without : ByteArray := prog_14_method_39_code
def yX13_without : MethodName := ⟨RX13, "without", "([II)[I"⟩
abbrev cX13_rowOf : ByteArray := prog_14_method_40_code
def yX13_rowOf : MethodName := ⟨RX13, "rowOf", "(I)[I"⟩
abbrev cX13_baseNow : ByteArray := prog_14_method_41_code
def yX13_baseNow : MethodName := ⟨RX13, "baseNow", "()I"⟩
abbrev cX13_go : ByteArray := prog_14_method_42_code
def yX13_go : MethodName := ⟨RX13, "go", "(III)I"⟩
abbrev cX13_open : ByteArray := prog_14_method_43_code
def yX13_open : MethodName := ⟨RX13, "open", "(IZ)I"⟩
abbrev cX13_goesNow : ByteArray := prog_14_method_44_code
def yX13_goesNow : MethodName := ⟨RX13, "goesNow", "(I)I"⟩
abbrev cX13_close : ByteArray := prog_14_method_45_code
def yX13_close : MethodName := ⟨RX13, "close", "(I)I"⟩
abbrev cX13_find : ByteArray := prog_14_method_46_code
def yX13_find : MethodName := ⟨RX13, "find", "(II)I"⟩
abbrev cX13_canCall : ByteArray := prog_14_method_47_code
def yX13_canCall : MethodName := ⟨RX13, "canCall", "(II)Z"⟩
abbrev cX13_call : ByteArray := prog_14_method_48_code
def yX13_call : MethodName := ⟨RX13, "call", "(II)I"⟩
abbrev cX13_ofBindingNow : ByteArray := prog_14_method_49_code
def yX13_ofBindingNow : MethodName := ⟨RX13, "ofBindingNow", "(III)I"⟩
abbrev cX13_ofBinding : ByteArray := prog_14_method_50_code
def yX13_ofBinding : MethodName := ⟨RX13, "ofBinding", "(III)I"⟩
abbrev cX13_exports : ByteArray := prog_14_method_51_code
def yX13_exports : MethodName := ⟨RX13, "exports", "(I)I"⟩
abbrev cX13_bits : ByteArray := prog_14_method_52_code
def yX13_bits : MethodName := ⟨RX13, "bits", "(I)I"⟩
abbrev cX13_ofLibraryNow : ByteArray := prog_14_method_53_code
def yX13_ofLibraryNow : MethodName := ⟨RX13, "ofLibraryNow", "(II)I"⟩
abbrev cX13_ofLibrary : ByteArray := prog_14_method_54_code
def yX13_ofLibrary : MethodName := ⟨RX13, "ofLibrary", "(II)I"⟩
abbrev cX13_manyNow : ByteArray := prog_14_method_55_code
def yX13_manyNow : MethodName := ⟨RX13, "manyNow", "(I)I"⟩
abbrev cX13_many : ByteArray := prog_14_method_56_code
def yX13_many : MethodName := ⟨RX13, "many", "(I)I"⟩
abbrev cX13_usedPart : ByteArray := prog_14_method_57_code
def yX13_usedPart : MethodName := ⟨RX13, "usedPart", "()D"⟩
abbrev cX13_sizeWith : ByteArray := prog_14_method_58_code
def yX13_sizeWith : MethodName := ⟨RX13, "sizeWith", "(I)I"⟩
abbrev cX13_faultsWithout : ByteArray := prog_14_method_59_code
def yX13_faultsWithout : MethodName := ⟨RX13, "faultsWithout", "(I)I"⟩
abbrev cX13_goes : ByteArray := prog_14_method_60_code
def yX13_goes : MethodName := ⟨RX13, "goes", "(I)I"⟩
abbrev cX13_wouldBindNow : ByteArray := prog_14_method_61_code
def yX13_wouldBindNow : MethodName := ⟨RX13, "wouldBindNow", "(II)I"⟩
abbrev cX13_wouldBind : ByteArray := prog_14_method_62_code
def yX13_wouldBind : MethodName := ⟨RX13, "wouldBind", "(II)I"⟩
abbrev cX13_digest : ByteArray := prog_14_method_63_code
def yX13_digest : MethodName := ⟨RX13, "digest", "()J"⟩
def RJ6 : String := "java/lang/Integer"
abbrev cJ6_bitCount_0f7a4 : ByteArray := prog_20_method_49_code
def yJ6_bitCount_0f7a4 : MethodName := ⟨RJ6, "bitCount", "(I)I"⟩
def RJ9 : String := "java/lang/Math"
abbrev cJ9_abs_0f7a4 : ByteArray := prog_21_method_59_code
def yJ9_abs_0f7a4 : MethodName := ⟨RJ9, "abs", "(I)I"⟩
abbrev cJ9_max_7cf53 : ByteArray := prog_21_method_65_code
def yJ9_max_7cf53 : MethodName := ⟨RJ9, "max", "(II)I"⟩
def RJ0 : String := "java/lang/String"
def RJ10 : String := "java/lang/System"
def RL : String := "LinkHarbourLaw"
abbrev cL_object : ByteArray := method_3_code
def yL_object : MethodName := ⟨RL, "object", "(LLinkHarbour;[J)I"⟩
abbrev cL_section : ByteArray := method_4_code
def yL_section : MethodName := ⟨RL, "section", "(LLinkHarbour;IIZ[J)I"⟩
abbrev cL_fill : ByteArray := method_5_code
def yL_fill : MethodName := ⟨RL, "fill", "(LLinkHarbour;II[J)I"⟩
abbrev cL_word : ByteArray := method_6_code
def yL_word : MethodName := ⟨RL, "word", "(LLinkHarbour;IIIZ[J)I"⟩
abbrev cL_jump : ByteArray := method_7_code
def yL_jump : MethodName := ⟨RL, "jump", "(LLinkHarbour;IIZ[J)I"⟩
abbrev cL_define : ByteArray := method_8_code
def yL_define : MethodName := ⟨RL, "define", "(LLinkHarbour;IIZZ[J)I"⟩
abbrev cL_common : ByteArray := method_9_code
def yL_common : MethodName := ⟨RL, "common", "(LLinkHarbour;IIII[J)I"⟩
abbrev cL_item : ByteArray := method_10_code
def yL_item : MethodName := ⟨RL, "item", "(LLinkHarbour;II[J)I"⟩
abbrev cL_ofObject : ByteArray := method_11_code
def yL_ofObject : MethodName := ⟨RL, "ofObject", "(LLinkHarbour;II[J)I"⟩
abbrev cL_bounds : ByteArray := method_12_code
def yL_bounds : MethodName := ⟨RL, "bounds", "(LLinkHarbour;II[J)I"⟩
abbrev cL_link : ByteArray := method_13_code
def yL_link : MethodName := ⟨RL, "link", "(LLinkHarbour;IZ[J)I"⟩
abbrev cL_ofSection : ByteArray := method_14_code
def yL_ofSection : MethodName := ⟨RL, "ofSection", "(LLinkHarbour;II[J)I"⟩
abbrev cL_ofName : ByteArray := method_15_code
def yL_ofName : MethodName := ⟨RL, "ofName", "(LLinkHarbour;II[J)I"⟩
abbrev cL_fault : ByteArray := method_16_code
def yL_fault : MethodName := ⟨RL, "fault", "(LLinkHarbour;II[J)I"⟩
abbrev cL_wordAt : ByteArray := method_17_code
def yL_wordAt : MethodName := ⟨RL, "wordAt", "(LLinkHarbour;I[J)I"⟩
abbrev cL_publish : ByteArray := method_18_code
def yL_publish : MethodName := ⟨RL, "publish", "(LLinkHarbour;I[J)I"⟩
abbrev cL_open : ByteArray := method_19_code
def yL_open : MethodName := ⟨RL, "open", "(LLinkHarbour;IZ[J)I"⟩
abbrev cL_close : ByteArray := method_20_code
def yL_close : MethodName := ⟨RL, "close", "(LLinkHarbour;I[J)I"⟩
abbrev cL_call : ByteArray := method_21_code
def yL_call : MethodName := ⟨RL, "call", "(LLinkHarbour;II[J)I"⟩
abbrev cL_ofBinding : ByteArray := method_22_code
def yL_ofBinding : MethodName := ⟨RL, "ofBinding", "(LLinkHarbour;III[J)I"⟩
abbrev cL_ofLibrary : ByteArray := method_23_code
def yL_ofLibrary : MethodName := ⟨RL, "ofLibrary", "(LLinkHarbour;II[J)I"⟩
abbrev cL_many : ByteArray := method_24_code
def yL_many : MethodName := ⟨RL, "many", "(LLinkHarbour;I[J)I"⟩
abbrev cL_sizeWith : ByteArray := method_25_code
def yL_sizeWith : MethodName := ⟨RL, "sizeWith", "(LLinkHarbour;I[J)I"⟩
abbrev cL_faultsWithout : ByteArray := method_26_code
def yL_faultsWithout : MethodName := ⟨RL, "faultsWithout", "(LLinkHarbour;I[J)I"⟩
abbrev cL_goes : ByteArray := method_27_code
def yL_goes : MethodName := ⟨RL, "goes", "(LLinkHarbour;I[J)I"⟩
abbrev cL_wouldBind : ByteArray := method_28_code
def yL_wouldBind : MethodName := ⟨RL, "wouldBind", "(LLinkHarbour;II[J)I"⟩
abbrev cL_law : ByteArray := code
def yL_law : MethodName := ⟨RL, "law", "([I)Z"⟩
abbrev vwCl : List vw_C := [(RX0, TX0, 2), (RX1, TX1, 1), (RX2, TX2, 3), (RX3, TX3, 13), (RX4, TX4, 16), (RX5, TX5, 9), (RX6, TX6, 10), (RX7, TX7, 9), (RX8, TX8, 9), (RX9, TX9, 10), (RX10, TX10, 7), (RX11, TX11, 9), (RX12, TX12, 25), (RX13, TX13, 30)]
end
section
/-! words of the tables, by their places; the good ones are every method's own list -/
def lw_g : List Cond := lw_tbl.filter goodWord
theorem gdG : ∀ w ∈ lw_g, goodWord w = true := fun w h => (List.mem_filter.mp h).2
theorem mG {w : Cond} (i : Nat) (h : lw_tbl[i]? = some w) (hg : goodWord w = true) : w ∈ lw_g := List.mem_filter.mpr ⟨List.mem_of_getElem? h, hg⟩
def lw_n : List Cond := [Cond.methodLinkNest "LinkHarbour" 11 ⟨"LinkHarbour$ObjectTable", "<init>", "()V"⟩ "LinkHarbour", Cond.methodLinkNest "LinkHarbour" 18 ⟨"LinkHarbour$SectionTable", "<init>", "()V"⟩ "LinkHarbour", Cond.methodLinkNest "LinkHarbour" 25 ⟨"LinkHarbour$ItemRow", "<init>", "()V"⟩ "LinkHarbour", Cond.methodLinkNest "LinkHarbour" 39 ⟨"LinkHarbour$Image", "<init>", "()V"⟩ "LinkHarbour", Cond.methodLinkNest "LinkHarbour$Link" 11 ⟨"LinkHarbour$FaultList", "<init>", "()V"⟩ "LinkHarbour", Cond.fieldLinkNest "LinkHarbour" 182 "LinkHarbour$Link" "taking" "LLinkHarbour$Taking;" "LinkHarbour", Cond.fieldLinkNest "LinkHarbour" 244 "LinkHarbour$Link" "settling" "LLinkHarbour$Settling;" "LinkHarbour", Cond.fieldLinkNest "LinkHarbour$LibraryTable" 130 "LinkHarbour$Link" "settling" "LLinkHarbour$Settling;" "LinkHarbour", Cond.fieldLinkNest "LinkHarbour" 218 "LinkHarbour$Link" "reaching" "LLinkHarbour$Reaching;" "LinkHarbour", Cond.fieldLinkNest "LinkHarbour$LibraryTable" 119 "LinkHarbour$Link" "reaching" "LLinkHarbour$Reaching;" "LinkHarbour", Cond.fieldLinkNest "LinkHarbour" 227 "LinkHarbour$Link" "layout" "LLinkHarbour$Layout;" "LinkHarbour", Cond.fieldLinkNest "LinkHarbour$LibraryTable" 108 "LinkHarbour$Link" "layout" "LLinkHarbour$Layout;" "LinkHarbour", Cond.fieldLinkNest "LinkHarbour" 206 "LinkHarbour$Link" "faults" "LLinkHarbour$FaultList;" "LinkHarbour", Cond.methodLinkNest "LinkHarbour$Reaching" 43 ⟨"LinkHarbour", "isIn", "(II)Z"⟩ "LinkHarbour", Cond.methodLinkNest "LinkHarbour$Reaching" 47 ⟨"LinkHarbour", "hasBit", "(II)Z"⟩ "LinkHarbour", Cond.methodLinkNest "LinkHarbour$Layout" 62 ⟨"LinkHarbour", "isIn", "(II)Z"⟩ "LinkHarbour", Cond.methodLinkNest "LinkHarbour$ItemRow" 26 ⟨"LinkHarbour", "hasBit", "(II)Z"⟩ "LinkHarbour", Cond.methodLinkNest "LinkHarbour$Settling" 68 ⟨"LinkHarbour", "isName", "(I)Z"⟩ "LinkHarbour", Cond.methodLinkNest "LinkHarbour$Layout" 69 ⟨"LinkHarbour", "isName", "(I)Z"⟩ "LinkHarbour", Cond.methodLinkNest "LinkHarbour$Reaching" 50 ⟨"LinkHarbour", "isName", "(I)Z"⟩ "LinkHarbour", Cond.methodLinkNest "LinkHarbour$FaultList" 19 ⟨"LinkHarbour", "isIn", "(II)Z"⟩ "LinkHarbour", Cond.methodLinkNest "LinkHarbour$LibraryTable" 75 ⟨"LinkHarbour", "hasBit", "(II)Z"⟩ "LinkHarbour", Cond.methodLinkNest "LinkHarbour$LibraryTable" 69 ⟨"LinkHarbour", "isName", "(I)Z"⟩ "LinkHarbour", Cond.methodLinkNest "LinkHarbour$Taking" 40 ⟨"LinkHarbour", "hasBit", "(II)Z"⟩ "LinkHarbour", Cond.methodLinkNest "LinkHarbour$ObjectTable" 47 ⟨"LinkHarbour", "isName", "(I)Z"⟩ "LinkHarbour", Cond.methodLinkNest "LinkHarbour$ObjectTable" 54 ⟨"LinkHarbour", "hasBit", "(II)Z"⟩ "LinkHarbour", Cond.methodLinkNest "LinkHarbour$Taking" 36 ⟨"LinkHarbour", "isIn", "(II)Z"⟩ "LinkHarbour", Cond.methodLinkNest "LinkHarbour$Settling" 95 ⟨"LinkHarbour", "hasBit", "(II)Z"⟩ "LinkHarbour", Cond.methodLinkNest "LinkHarbour$Layout" 113 ⟨"LinkHarbour", "roundUp", "(II)I"⟩ "LinkHarbour", Cond.methodLinkNest "LinkHarbour$LibraryTable" 164 ⟨"LinkHarbour", "roundUp", "(II)I"⟩ "LinkHarbour", Cond.fieldLinkNest "LinkHarbourModel$Linked" 103 "LinkHarbourModel" "objects" "I" "LinkHarbourModel", Cond.fieldLinkNest "LinkHarbourModel$Linked" 126 "LinkHarbourModel" "sections" "I" "LinkHarbourModel", Cond.fieldLinkNest "LinkHarbourModel$Linked" 76 "LinkHarbourModel" "items" "I" "LinkHarbourModel", Cond.fieldLinkNest "LinkHarbourModel$Linked" 129 "LinkHarbourModel" "owner" "[I" "LinkHarbourModel", Cond.fieldLinkNest "LinkHarbourModel$Linked" 187 "LinkHarbourModel" "align" "[I" "LinkHarbourModel", Cond.fieldLinkNest "LinkHarbourModel$Linked" 132 "LinkHarbourModel" "pieces" "[I" "LinkHarbourModel", Cond.fieldLinkNest "LinkHarbourModel$Linked" 175 "LinkHarbourModel" "isKept" "[Z" "LinkHarbourModel", Cond.fieldLinkNest "LinkHarbourModel$Linked" 139 "LinkHarbourModel" "piece" "[I" "LinkHarbourModel", Cond.fieldLinkNest "LinkHarbourModel$Linked" 120 "LinkHarbourModel" "defined" "[I" "LinkHarbourModel", Cond.fieldLinkNest "LinkHarbourModel$Linked" 145 "LinkHarbourModel" "where" "[I" "LinkHarbourModel", Cond.fieldLinkNest "LinkHarbourModel$Linked" 153 "LinkHarbourModel" "ahead" "[I" "LinkHarbourModel", Cond.fieldLinkNest "LinkHarbourModel$Linked" 178 "LinkHarbourModel" "isHidden" "[Z" "LinkHarbourModel", Cond.fieldLinkNest "LinkHarbourModel$Linked" 106 "LinkHarbourModel" "itemSet" "[I" "LinkHarbourModel", Cond.fieldLinkNest "LinkHarbourModel$Linked" 100 "LinkHarbourModel" "itemKind" "[I" "LinkHarbourModel", Cond.methodLinkNest "LinkHarbourModel$Linked" 109 ⟨"LinkHarbourModel", "has", "(II)Z"⟩ "LinkHarbourModel", Cond.methodLinkNest "LinkHarbourModel$Linked" 214 ⟨"LinkHarbourModel", "isIn", "(III)Z"⟩ "LinkHarbourModel", Cond.fieldLinkNest "LinkHarbourModel" 273 "LinkHarbourModel$Linked" "entry" "I" "LinkHarbourModel", Cond.fieldLinkNest "LinkHarbourModel" 191 "LinkHarbourModel$Linked" "isShared" "Z" "LinkHarbourModel", Cond.fieldLinkNest "LinkHarbourModel" 258 "LinkHarbourModel$Linked" "taken" "I" "LinkHarbourModel", Cond.fieldLinkNest "LinkHarbourModel" 143 "LinkHarbourModel$Linked" "takenAs" "[I" "LinkHarbourModel", Cond.fieldLinkNest "LinkHarbourModel" 196 "LinkHarbourModel$Linked" "objectOf" "[I" "LinkHarbourModel", Cond.fieldLinkNest "LinkHarbourModel" 199 "LinkHarbourModel$Linked" "addressOf" "[I" "LinkHarbourModel", Cond.fieldLinkNest "LinkHarbourModel" 161 "LinkHarbourModel$Linked" "isReached" "[Z" "LinkHarbourModel", Cond.fieldLinkNest "LinkHarbourModel" 164 "LinkHarbourModel$Linked" "address" "[I" "LinkHarbourModel", Cond.fieldLinkNest "LinkHarbourModel" 167 "LinkHarbourModel$Linked" "length" "[I" "LinkHarbourModel", Cond.fieldLinkNest "LinkHarbourModel" 194 "LinkHarbourModel$Linked" "imports" "I" "LinkHarbourModel", Cond.fieldLinkNest "LinkHarbourModel" 182 "LinkHarbourModel$Linked" "size" "I" "LinkHarbourModel", Cond.fieldLinkNest "LinkHarbourModel" 270 "LinkHarbourModel$Linked" "used" "I" "LinkHarbourModel", Cond.fieldLinkNest "LinkHarbourModel" 158 "LinkHarbourModel$Linked" "many" "I" "LinkHarbourModel", Cond.fieldLinkNest "LinkHarbourModel" 179 "LinkHarbourModel$Linked" "faults" "[I" "LinkHarbourModel", Cond.fieldLinkNest "LinkHarbourModel" 185 "LinkHarbourModel$Linked" "words" "[I" "LinkHarbourModel", Cond.methodLinkNest "LinkHarbourModel" 155 ⟨"LinkHarbourModel$Linked", "longOf", "(I)I"⟩ "LinkHarbourModel", Cond.methodLinkNest "LinkHarbourModel" 173 ⟨"LinkHarbourModel$Linked", "ofName", "(II)I"⟩ "LinkHarbourModel", Cond.methodLinkNest "LinkHarbourModel" 261 ⟨"LinkHarbourModel$Linked", "reachedSections", "()I"⟩ "LinkHarbourModel", Cond.methodLinkNest "LinkHarbourModel" 264 ⟨"LinkHarbourModel$Linked", "allLong", "()I"⟩ "LinkHarbourModel", Cond.castable "java/lang/IllegalArgumentException" "java/lang/IllegalArgumentException", Cond.declares ⟨"java/lang/RuntimeException", "<init>", "()V"⟩, Cond.declares ⟨"java/lang/RuntimeException", "<init>", "(Ljava/lang/String;)V"⟩, Cond.declares ⟨"java/lang/Exception", "<init>", "()V"⟩, Cond.declares ⟨"java/lang/Exception", "<init>", "(Ljava/lang/String;)V"⟩, Cond.declares ⟨"java/lang/Throwable", "<init>", "()V"⟩, Cond.declares ⟨"java/lang/Throwable", "<init>", "(Ljava/lang/String;)V"⟩, Cond.castable "java/lang/IndexOutOfBoundsException" "java/lang/IndexOutOfBoundsException", Cond.castable "java/lang/IllegalStateException" "java/lang/IllegalStateException"]
theorem nst_0 : Cond.methodLinkNest "LinkHarbour" 11 ⟨"LinkHarbour$ObjectTable", "<init>", "()V"⟩ "LinkHarbour" ∈ lw_n := List.mem_of_getElem? (i := 0) rfl
theorem nst_1 : Cond.methodLinkNest "LinkHarbour" 18 ⟨"LinkHarbour$SectionTable", "<init>", "()V"⟩ "LinkHarbour" ∈ lw_n := List.mem_of_getElem? (i := 1) rfl
theorem nst_2 : Cond.methodLinkNest "LinkHarbour" 25 ⟨"LinkHarbour$ItemRow", "<init>", "()V"⟩ "LinkHarbour" ∈ lw_n := List.mem_of_getElem? (i := 2) rfl
theorem nst_3 : Cond.methodLinkNest "LinkHarbour" 39 ⟨"LinkHarbour$Image", "<init>", "()V"⟩ "LinkHarbour" ∈ lw_n := List.mem_of_getElem? (i := 3) rfl
theorem nst_4 : Cond.methodLinkNest "LinkHarbour$Link" 11 ⟨"LinkHarbour$FaultList", "<init>", "()V"⟩ "LinkHarbour" ∈ lw_n := List.mem_of_getElem? (i := 4) rfl
theorem nst_5 : Cond.fieldLinkNest "LinkHarbour" 182 "LinkHarbour$Link" "taking" "LLinkHarbour$Taking;" "LinkHarbour" ∈ lw_n := List.mem_of_getElem? (i := 5) rfl
theorem nst_6 : Cond.fieldLinkNest "LinkHarbour" 244 "LinkHarbour$Link" "settling" "LLinkHarbour$Settling;" "LinkHarbour" ∈ lw_n := List.mem_of_getElem? (i := 6) rfl
theorem nst_7 : Cond.fieldLinkNest "LinkHarbour$LibraryTable" 130 "LinkHarbour$Link" "settling" "LLinkHarbour$Settling;" "LinkHarbour" ∈ lw_n := List.mem_of_getElem? (i := 7) rfl
theorem nst_8 : Cond.fieldLinkNest "LinkHarbour" 218 "LinkHarbour$Link" "reaching" "LLinkHarbour$Reaching;" "LinkHarbour" ∈ lw_n := List.mem_of_getElem? (i := 8) rfl
theorem nst_9 : Cond.fieldLinkNest "LinkHarbour$LibraryTable" 119 "LinkHarbour$Link" "reaching" "LLinkHarbour$Reaching;" "LinkHarbour" ∈ lw_n := List.mem_of_getElem? (i := 9) rfl
theorem nst_10 : Cond.fieldLinkNest "LinkHarbour" 227 "LinkHarbour$Link" "layout" "LLinkHarbour$Layout;" "LinkHarbour" ∈ lw_n := List.mem_of_getElem? (i := 10) rfl
theorem nst_11 : Cond.fieldLinkNest "LinkHarbour$LibraryTable" 108 "LinkHarbour$Link" "layout" "LLinkHarbour$Layout;" "LinkHarbour" ∈ lw_n := List.mem_of_getElem? (i := 11) rfl
theorem nst_12 : Cond.fieldLinkNest "LinkHarbour" 206 "LinkHarbour$Link" "faults" "LLinkHarbour$FaultList;" "LinkHarbour" ∈ lw_n := List.mem_of_getElem? (i := 12) rfl
theorem nst_13 : Cond.methodLinkNest "LinkHarbour$Reaching" 43 ⟨"LinkHarbour", "isIn", "(II)Z"⟩ "LinkHarbour" ∈ lw_n := List.mem_of_getElem? (i := 13) rfl
theorem nst_14 : Cond.methodLinkNest "LinkHarbour$Reaching" 47 ⟨"LinkHarbour", "hasBit", "(II)Z"⟩ "LinkHarbour" ∈ lw_n := List.mem_of_getElem? (i := 14) rfl
theorem nst_15 : Cond.methodLinkNest "LinkHarbour$Layout" 62 ⟨"LinkHarbour", "isIn", "(II)Z"⟩ "LinkHarbour" ∈ lw_n := List.mem_of_getElem? (i := 15) rfl
theorem nst_16 : Cond.methodLinkNest "LinkHarbour$ItemRow" 26 ⟨"LinkHarbour", "hasBit", "(II)Z"⟩ "LinkHarbour" ∈ lw_n := List.mem_of_getElem? (i := 16) rfl
theorem nst_17 : Cond.methodLinkNest "LinkHarbour$Settling" 68 ⟨"LinkHarbour", "isName", "(I)Z"⟩ "LinkHarbour" ∈ lw_n := List.mem_of_getElem? (i := 17) rfl
theorem nst_18 : Cond.methodLinkNest "LinkHarbour$Layout" 69 ⟨"LinkHarbour", "isName", "(I)Z"⟩ "LinkHarbour" ∈ lw_n := List.mem_of_getElem? (i := 18) rfl
theorem nst_19 : Cond.methodLinkNest "LinkHarbour$Reaching" 50 ⟨"LinkHarbour", "isName", "(I)Z"⟩ "LinkHarbour" ∈ lw_n := List.mem_of_getElem? (i := 19) rfl
theorem nst_20 : Cond.methodLinkNest "LinkHarbour$FaultList" 19 ⟨"LinkHarbour", "isIn", "(II)Z"⟩ "LinkHarbour" ∈ lw_n := List.mem_of_getElem? (i := 20) rfl
theorem nst_21 : Cond.methodLinkNest "LinkHarbour$LibraryTable" 75 ⟨"LinkHarbour", "hasBit", "(II)Z"⟩ "LinkHarbour" ∈ lw_n := List.mem_of_getElem? (i := 21) rfl
theorem nst_22 : Cond.methodLinkNest "LinkHarbour$LibraryTable" 69 ⟨"LinkHarbour", "isName", "(I)Z"⟩ "LinkHarbour" ∈ lw_n := List.mem_of_getElem? (i := 22) rfl
theorem nst_23 : Cond.methodLinkNest "LinkHarbour$Taking" 40 ⟨"LinkHarbour", "hasBit", "(II)Z"⟩ "LinkHarbour" ∈ lw_n := List.mem_of_getElem? (i := 23) rfl
theorem nst_24 : Cond.methodLinkNest "LinkHarbour$ObjectTable" 47 ⟨"LinkHarbour", "isName", "(I)Z"⟩ "LinkHarbour" ∈ lw_n := List.mem_of_getElem? (i := 24) rfl
theorem nst_25 : Cond.methodLinkNest "LinkHarbour$ObjectTable" 54 ⟨"LinkHarbour", "hasBit", "(II)Z"⟩ "LinkHarbour" ∈ lw_n := List.mem_of_getElem? (i := 25) rfl
theorem nst_26 : Cond.methodLinkNest "LinkHarbour$Taking" 36 ⟨"LinkHarbour", "isIn", "(II)Z"⟩ "LinkHarbour" ∈ lw_n := List.mem_of_getElem? (i := 26) rfl
theorem nst_27 : Cond.methodLinkNest "LinkHarbour$Settling" 95 ⟨"LinkHarbour", "hasBit", "(II)Z"⟩ "LinkHarbour" ∈ lw_n := List.mem_of_getElem? (i := 27) rfl
theorem nst_28 : Cond.methodLinkNest "LinkHarbour$Layout" 113 ⟨"LinkHarbour", "roundUp", "(II)I"⟩ "LinkHarbour" ∈ lw_n := List.mem_of_getElem? (i := 28) rfl
theorem nst_29 : Cond.methodLinkNest "LinkHarbour$LibraryTable" 164 ⟨"LinkHarbour", "roundUp", "(II)I"⟩ "LinkHarbour" ∈ lw_n := List.mem_of_getElem? (i := 29) rfl
theorem nst_30 : Cond.fieldLinkNest "LinkHarbourModel$Linked" 103 "LinkHarbourModel" "objects" "I" "LinkHarbourModel" ∈ lw_n := List.mem_of_getElem? (i := 30) rfl
theorem nst_31 : Cond.fieldLinkNest "LinkHarbourModel$Linked" 126 "LinkHarbourModel" "sections" "I" "LinkHarbourModel" ∈ lw_n := List.mem_of_getElem? (i := 31) rfl
theorem nst_32 : Cond.fieldLinkNest "LinkHarbourModel$Linked" 76 "LinkHarbourModel" "items" "I" "LinkHarbourModel" ∈ lw_n := List.mem_of_getElem? (i := 32) rfl
theorem nst_33 : Cond.fieldLinkNest "LinkHarbourModel$Linked" 129 "LinkHarbourModel" "owner" "[I" "LinkHarbourModel" ∈ lw_n := List.mem_of_getElem? (i := 33) rfl
theorem nst_34 : Cond.fieldLinkNest "LinkHarbourModel$Linked" 187 "LinkHarbourModel" "align" "[I" "LinkHarbourModel" ∈ lw_n := List.mem_of_getElem? (i := 34) rfl
theorem nst_35 : Cond.fieldLinkNest "LinkHarbourModel$Linked" 132 "LinkHarbourModel" "pieces" "[I" "LinkHarbourModel" ∈ lw_n := List.mem_of_getElem? (i := 35) rfl
theorem nst_36 : Cond.fieldLinkNest "LinkHarbourModel$Linked" 175 "LinkHarbourModel" "isKept" "[Z" "LinkHarbourModel" ∈ lw_n := List.mem_of_getElem? (i := 36) rfl
theorem nst_37 : Cond.fieldLinkNest "LinkHarbourModel$Linked" 139 "LinkHarbourModel" "piece" "[I" "LinkHarbourModel" ∈ lw_n := List.mem_of_getElem? (i := 37) rfl
theorem nst_38 : Cond.fieldLinkNest "LinkHarbourModel$Linked" 120 "LinkHarbourModel" "defined" "[I" "LinkHarbourModel" ∈ lw_n := List.mem_of_getElem? (i := 38) rfl
theorem nst_39 : Cond.fieldLinkNest "LinkHarbourModel$Linked" 145 "LinkHarbourModel" "where" "[I" "LinkHarbourModel" ∈ lw_n := List.mem_of_getElem? (i := 39) rfl
theorem nst_40 : Cond.fieldLinkNest "LinkHarbourModel$Linked" 153 "LinkHarbourModel" "ahead" "[I" "LinkHarbourModel" ∈ lw_n := List.mem_of_getElem? (i := 40) rfl
theorem nst_41 : Cond.fieldLinkNest "LinkHarbourModel$Linked" 178 "LinkHarbourModel" "isHidden" "[Z" "LinkHarbourModel" ∈ lw_n := List.mem_of_getElem? (i := 41) rfl
theorem nst_42 : Cond.fieldLinkNest "LinkHarbourModel$Linked" 106 "LinkHarbourModel" "itemSet" "[I" "LinkHarbourModel" ∈ lw_n := List.mem_of_getElem? (i := 42) rfl
theorem nst_43 : Cond.fieldLinkNest "LinkHarbourModel$Linked" 100 "LinkHarbourModel" "itemKind" "[I" "LinkHarbourModel" ∈ lw_n := List.mem_of_getElem? (i := 43) rfl
theorem nst_44 : Cond.methodLinkNest "LinkHarbourModel$Linked" 109 ⟨"LinkHarbourModel", "has", "(II)Z"⟩ "LinkHarbourModel" ∈ lw_n := List.mem_of_getElem? (i := 44) rfl
theorem nst_45 : Cond.methodLinkNest "LinkHarbourModel$Linked" 214 ⟨"LinkHarbourModel", "isIn", "(III)Z"⟩ "LinkHarbourModel" ∈ lw_n := List.mem_of_getElem? (i := 45) rfl
theorem nst_46 : Cond.fieldLinkNest "LinkHarbourModel" 273 "LinkHarbourModel$Linked" "entry" "I" "LinkHarbourModel" ∈ lw_n := List.mem_of_getElem? (i := 46) rfl
theorem nst_47 : Cond.fieldLinkNest "LinkHarbourModel" 191 "LinkHarbourModel$Linked" "isShared" "Z" "LinkHarbourModel" ∈ lw_n := List.mem_of_getElem? (i := 47) rfl
theorem nst_48 : Cond.fieldLinkNest "LinkHarbourModel" 258 "LinkHarbourModel$Linked" "taken" "I" "LinkHarbourModel" ∈ lw_n := List.mem_of_getElem? (i := 48) rfl
theorem nst_49 : Cond.fieldLinkNest "LinkHarbourModel" 143 "LinkHarbourModel$Linked" "takenAs" "[I" "LinkHarbourModel" ∈ lw_n := List.mem_of_getElem? (i := 49) rfl
theorem nst_50 : Cond.fieldLinkNest "LinkHarbourModel" 196 "LinkHarbourModel$Linked" "objectOf" "[I" "LinkHarbourModel" ∈ lw_n := List.mem_of_getElem? (i := 50) rfl
theorem nst_51 : Cond.fieldLinkNest "LinkHarbourModel" 199 "LinkHarbourModel$Linked" "addressOf" "[I" "LinkHarbourModel" ∈ lw_n := List.mem_of_getElem? (i := 51) rfl
theorem nst_52 : Cond.fieldLinkNest "LinkHarbourModel" 161 "LinkHarbourModel$Linked" "isReached" "[Z" "LinkHarbourModel" ∈ lw_n := List.mem_of_getElem? (i := 52) rfl
theorem nst_53 : Cond.fieldLinkNest "LinkHarbourModel" 164 "LinkHarbourModel$Linked" "address" "[I" "LinkHarbourModel" ∈ lw_n := List.mem_of_getElem? (i := 53) rfl
theorem nst_54 : Cond.fieldLinkNest "LinkHarbourModel" 167 "LinkHarbourModel$Linked" "length" "[I" "LinkHarbourModel" ∈ lw_n := List.mem_of_getElem? (i := 54) rfl
theorem nst_55 : Cond.fieldLinkNest "LinkHarbourModel" 194 "LinkHarbourModel$Linked" "imports" "I" "LinkHarbourModel" ∈ lw_n := List.mem_of_getElem? (i := 55) rfl
theorem nst_56 : Cond.fieldLinkNest "LinkHarbourModel" 182 "LinkHarbourModel$Linked" "size" "I" "LinkHarbourModel" ∈ lw_n := List.mem_of_getElem? (i := 56) rfl
theorem nst_57 : Cond.fieldLinkNest "LinkHarbourModel" 270 "LinkHarbourModel$Linked" "used" "I" "LinkHarbourModel" ∈ lw_n := List.mem_of_getElem? (i := 57) rfl
theorem nst_58 : Cond.fieldLinkNest "LinkHarbourModel" 158 "LinkHarbourModel$Linked" "many" "I" "LinkHarbourModel" ∈ lw_n := List.mem_of_getElem? (i := 58) rfl
theorem nst_59 : Cond.fieldLinkNest "LinkHarbourModel" 179 "LinkHarbourModel$Linked" "faults" "[I" "LinkHarbourModel" ∈ lw_n := List.mem_of_getElem? (i := 59) rfl
theorem nst_60 : Cond.fieldLinkNest "LinkHarbourModel" 185 "LinkHarbourModel$Linked" "words" "[I" "LinkHarbourModel" ∈ lw_n := List.mem_of_getElem? (i := 60) rfl
theorem nst_61 : Cond.methodLinkNest "LinkHarbourModel" 155 ⟨"LinkHarbourModel$Linked", "longOf", "(I)I"⟩ "LinkHarbourModel" ∈ lw_n := List.mem_of_getElem? (i := 61) rfl
theorem nst_62 : Cond.methodLinkNest "LinkHarbourModel" 173 ⟨"LinkHarbourModel$Linked", "ofName", "(II)I"⟩ "LinkHarbourModel" ∈ lw_n := List.mem_of_getElem? (i := 62) rfl
theorem nst_63 : Cond.methodLinkNest "LinkHarbourModel" 261 ⟨"LinkHarbourModel$Linked", "reachedSections", "()I"⟩ "LinkHarbourModel" ∈ lw_n := List.mem_of_getElem? (i := 63) rfl
theorem nst_64 : Cond.methodLinkNest "LinkHarbourModel" 264 ⟨"LinkHarbourModel$Linked", "allLong", "()I"⟩ "LinkHarbourModel" ∈ lw_n := List.mem_of_getElem? (i := 64) rfl
theorem nst_65 : Cond.castable "java/lang/IllegalArgumentException" "java/lang/IllegalArgumentException" ∈ lw_n := List.mem_of_getElem? (i := 65) rfl
theorem nst_66 : Cond.declares ⟨"java/lang/RuntimeException", "<init>", "()V"⟩ ∈ lw_n := List.mem_of_getElem? (i := 66) rfl
theorem nst_67 : Cond.declares ⟨"java/lang/RuntimeException", "<init>", "(Ljava/lang/String;)V"⟩ ∈ lw_n := List.mem_of_getElem? (i := 67) rfl
theorem nst_68 : Cond.declares ⟨"java/lang/Exception", "<init>", "()V"⟩ ∈ lw_n := List.mem_of_getElem? (i := 68) rfl
theorem nst_69 : Cond.declares ⟨"java/lang/Exception", "<init>", "(Ljava/lang/String;)V"⟩ ∈ lw_n := List.mem_of_getElem? (i := 69) rfl
theorem nst_70 : Cond.declares ⟨"java/lang/Throwable", "<init>", "()V"⟩ ∈ lw_n := List.mem_of_getElem? (i := 70) rfl
theorem nst_71 : Cond.declares ⟨"java/lang/Throwable", "<init>", "(Ljava/lang/String;)V"⟩ ∈ lw_n := List.mem_of_getElem? (i := 71) rfl
theorem nst_72 : Cond.castable "java/lang/IndexOutOfBoundsException" "java/lang/IndexOutOfBoundsException" ∈ lw_n := List.mem_of_getElem? (i := 72) rfl
theorem nst_73 : Cond.castable "java/lang/IllegalStateException" "java/lang/IllegalStateException" ∈ lw_n := List.mem_of_getElem? (i := 73) rfl
def lw_q : EQ := ([("LinkHarbour", 373, "what is not 0 to 12"), ("LinkHarbour", 84, "no such OBJECT"), ("LinkHarbour", 191, "what is not 0 to 3"), ("LinkHarbour", 102, "no such SECTION"), ("LinkHarbour", 242, "what is not 0 to 6"), ("LinkHarbour", 123, "no NAME"), ("LinkHarbour", 262, "what is not 0 to 4"), ("LinkHarbour", 264, "no such FAULT"), ("LinkHarbour", 272, "no such address"), ("LinkHarbour", 297, "no such LIBRARY"), ("LinkHarbour", 350, "what is not 0 to 7"), ("LinkHarbour", 378, "reach is not 1 to 500"), ("LinkHarbour", 380, "there was no link"), ("LinkHarbour", 69, "there are 10 OBJECTS"), ("LinkHarbour", 92, "no ALIGN"), ("LinkHarbour", 96, "there are 24 SECTIONS"), ("LinkHarbour", 104, "words are not 1 to 40"), ("LinkHarbour", 109, "the SECTION has 8 PIECES"), ("LinkHarbour", 118, "no NAME, or ADDED is not -50 to 50"), ("LinkHarbour", 133, "the OBJECT defines that already"), ("LinkHarbour", 146, "no NAME, size is not 1 to 40, or no ALIGN"), ("LinkHarbour", 163, "no set of OBJECTS, or no kind of ITEM"), ("LinkHarbour", 169, "there are 8 ITEMS, or an OBJECT is in another one"), ("LinkHarbour", 196, "reach is not 1 to 500, or limit is not 0 to 9999"), ("LinkHarbour", 282, "needs is not 0 to 63, or has its own number"), ("LinkHarbour", 291, "there are 6 LIBRARIES, or no SHARED link without FAULTS"), ("LinkHarbour", 306, "its COUNT is 0"), ("LinkHarbour", 316, "it is not LOADED, or does not IMPORT that")], [("java/lang/IllegalArgumentException", "java/lang/IllegalStateException"), ("java/lang/IllegalArgumentException", "java/lang/IndexOutOfBoundsException"), ("java/lang/IllegalStateException", "java/lang/IllegalArgumentException"), ("java/lang/IllegalStateException", "java/lang/IndexOutOfBoundsException"), ("java/lang/IndexOutOfBoundsException", "java/lang/IllegalArgumentException"), ("java/lang/IndexOutOfBoundsException", "java/lang/IllegalStateException")])
theorem tq_0 : ("LinkHarbour", 373, "what is not 0 to 12") ∈ lw_q.1 := List.mem_of_getElem? (i := 0) rfl
theorem tq_1 : ("LinkHarbour", 84, "no such OBJECT") ∈ lw_q.1 := List.mem_of_getElem? (i := 1) rfl
theorem tq_2 : ("LinkHarbour", 191, "what is not 0 to 3") ∈ lw_q.1 := List.mem_of_getElem? (i := 2) rfl
theorem tq_3 : ("LinkHarbour", 102, "no such SECTION") ∈ lw_q.1 := List.mem_of_getElem? (i := 3) rfl
theorem tq_4 : ("LinkHarbour", 242, "what is not 0 to 6") ∈ lw_q.1 := List.mem_of_getElem? (i := 4) rfl
theorem tq_5 : ("LinkHarbour", 123, "no NAME") ∈ lw_q.1 := List.mem_of_getElem? (i := 5) rfl
theorem tq_6 : ("LinkHarbour", 262, "what is not 0 to 4") ∈ lw_q.1 := List.mem_of_getElem? (i := 6) rfl
theorem tq_7 : ("LinkHarbour", 264, "no such FAULT") ∈ lw_q.1 := List.mem_of_getElem? (i := 7) rfl
theorem tq_8 : ("LinkHarbour", 272, "no such address") ∈ lw_q.1 := List.mem_of_getElem? (i := 8) rfl
theorem tq_9 : ("LinkHarbour", 297, "no such LIBRARY") ∈ lw_q.1 := List.mem_of_getElem? (i := 9) rfl
theorem tq_10 : ("LinkHarbour", 350, "what is not 0 to 7") ∈ lw_q.1 := List.mem_of_getElem? (i := 10) rfl
theorem tq_11 : ("LinkHarbour", 378, "reach is not 1 to 500") ∈ lw_q.1 := List.mem_of_getElem? (i := 11) rfl
theorem tq_12 : ("LinkHarbour", 380, "there was no link") ∈ lw_q.1 := List.mem_of_getElem? (i := 12) rfl
theorem tq_13 : ("LinkHarbour", 69, "there are 10 OBJECTS") ∈ lw_q.1 := List.mem_of_getElem? (i := 13) rfl
theorem tq_14 : ("LinkHarbour", 92, "no ALIGN") ∈ lw_q.1 := List.mem_of_getElem? (i := 14) rfl
theorem tq_15 : ("LinkHarbour", 96, "there are 24 SECTIONS") ∈ lw_q.1 := List.mem_of_getElem? (i := 15) rfl
theorem tq_16 : ("LinkHarbour", 104, "words are not 1 to 40") ∈ lw_q.1 := List.mem_of_getElem? (i := 16) rfl
theorem tq_17 : ("LinkHarbour", 109, "the SECTION has 8 PIECES") ∈ lw_q.1 := List.mem_of_getElem? (i := 17) rfl
theorem tq_18 : ("LinkHarbour", 118, "no NAME, or ADDED is not -50 to 50") ∈ lw_q.1 := List.mem_of_getElem? (i := 18) rfl
theorem tq_19 : ("LinkHarbour", 133, "the OBJECT defines that already") ∈ lw_q.1 := List.mem_of_getElem? (i := 19) rfl
theorem tq_20 : ("LinkHarbour", 146, "no NAME, size is not 1 to 40, or no ALIGN") ∈ lw_q.1 := List.mem_of_getElem? (i := 20) rfl
theorem tq_21 : ("LinkHarbour", 163, "no set of OBJECTS, or no kind of ITEM") ∈ lw_q.1 := List.mem_of_getElem? (i := 21) rfl
theorem tq_22 : ("LinkHarbour", 169, "there are 8 ITEMS, or an OBJECT is in another one") ∈ lw_q.1 := List.mem_of_getElem? (i := 22) rfl
theorem tq_23 : ("LinkHarbour", 196, "reach is not 1 to 500, or limit is not 0 to 9999") ∈ lw_q.1 := List.mem_of_getElem? (i := 23) rfl
theorem tq_24 : ("LinkHarbour", 282, "needs is not 0 to 63, or has its own number") ∈ lw_q.1 := List.mem_of_getElem? (i := 24) rfl
theorem tq_25 : ("LinkHarbour", 291, "there are 6 LIBRARIES, or no SHARED link without FAULTS") ∈ lw_q.1 := List.mem_of_getElem? (i := 25) rfl
theorem tq_26 : ("LinkHarbour", 306, "its COUNT is 0") ∈ lw_q.1 := List.mem_of_getElem? (i := 26) rfl
theorem tq_27 : ("LinkHarbour", 316, "it is not LOADED, or does not IMPORT that") ∈ lw_q.1 := List.mem_of_getElem? (i := 27) rfl
theorem nc_0 : ("java/lang/IllegalArgumentException", "java/lang/IllegalStateException") ∈ lw_q.2 := List.mem_of_getElem? (i := 0) rfl
theorem nc_1 : ("java/lang/IllegalArgumentException", "java/lang/IndexOutOfBoundsException") ∈ lw_q.2 := List.mem_of_getElem? (i := 1) rfl
theorem nc_2 : ("java/lang/IllegalStateException", "java/lang/IllegalArgumentException") ∈ lw_q.2 := List.mem_of_getElem? (i := 2) rfl
theorem nc_3 : ("java/lang/IllegalStateException", "java/lang/IndexOutOfBoundsException") ∈ lw_q.2 := List.mem_of_getElem? (i := 3) rfl
theorem nc_4 : ("java/lang/IndexOutOfBoundsException", "java/lang/IllegalArgumentException") ∈ lw_q.2 := List.mem_of_getElem? (i := 4) rfl
theorem nc_5 : ("java/lang/IndexOutOfBoundsException", "java/lang/IllegalStateException") ∈ lw_q.2 := List.mem_of_getElem? (i := 5) rfl
theorem w_0 : Cond.selects "LinkHarbour$Settling" ⟨"LinkHarbour$Settling", "forget", "()V"⟩ ⟨"LinkHarbour$Settling", "forget", "()V"⟩ ∈ lw_g := mG 0 (by decide +kernel) rfl
theorem w_1 : Cond.selects "LinkHarbour$LibraryTable" ⟨"LinkHarbour$LibraryTable", "loaded", "()I"⟩ ⟨"LinkHarbour$LibraryTable", "loaded", "()I"⟩ ∈ lw_g := mG 1 (by decide +kernel) rfl
theorem w_3 : Cond.selects "LinkHarbour" ⟨"LinkHarbour", "mixObjects", "(J)J"⟩ ⟨"LinkHarbour", "mixObjects", "(J)J"⟩ ∈ lw_g := mG 3 (by decide +kernel) rfl
theorem w_4 : Cond.selects "LinkHarbour" ⟨"LinkHarbour", "mixSections", "(J)J"⟩ ⟨"LinkHarbour", "mixSections", "(J)J"⟩ ∈ lw_g := mG 4 (by decide +kernel) rfl
theorem w_5 : Cond.selects "LinkHarbour" ⟨"LinkHarbour", "mixNames", "(J)J"⟩ ⟨"LinkHarbour", "mixNames", "(J)J"⟩ ∈ lw_g := mG 5 (by decide +kernel) rfl
theorem w_6 : Cond.selects "LinkHarbour" ⟨"LinkHarbour", "mixFaults", "(J)J"⟩ ⟨"LinkHarbour", "mixFaults", "(J)J"⟩ ∈ lw_g := mG 6 (by decide +kernel) rfl
theorem w_7 : Cond.selects "LinkHarbour" ⟨"LinkHarbour", "mixLibrary", "(JI)J"⟩ ⟨"LinkHarbour", "mixLibrary", "(JI)J"⟩ ∈ lw_g := mG 7 (by decide +kernel) rfl
theorem w_8 : Cond.selects "LinkHarbour$LibraryTable" ⟨"LinkHarbour$LibraryTable", "fillRow", "(I)I"⟩ ⟨"LinkHarbour$LibraryTable", "fillRow", "(I)I"⟩ ∈ lw_g := mG 8 (by decide +kernel) rfl
theorem w_9 : Cond.selects "LinkHarbour$LibraryTable" ⟨"LinkHarbour$LibraryTable", "neededNow", "(I)I"⟩ ⟨"LinkHarbour$LibraryTable", "neededNow", "(I)I"⟩ ∈ lw_g := mG 9 (by decide +kernel) rfl
theorem w_10 : Cond.selects "LinkHarbour$Taking" ⟨"LinkHarbour$Taking", "takeAll", "(I)V"⟩ ⟨"LinkHarbour$Taking", "takeAll", "(I)V"⟩ ∈ lw_g := mG 10 (by decide +kernel) rfl
theorem w_11 : Cond.selects "LinkHarbour$Taking" ⟨"LinkHarbour$Taking", "add", "(I)V"⟩ ⟨"LinkHarbour$Taking", "add", "(I)V"⟩ ∈ lw_g := mG 11 (by decide +kernel) rfl
theorem w_12 : Cond.selects "LinkHarbour$Taking" ⟨"LinkHarbour$Taking", "takeGroup", "(II)V"⟩ ⟨"LinkHarbour$Taking", "takeGroup", "(II)V"⟩ ∈ lw_g := mG 12 (by decide +kernel) rfl
theorem w_13 : Cond.selects "LinkHarbour$Taking" ⟨"LinkHarbour$Taking", "takeWanted", "(I)V"⟩ ⟨"LinkHarbour$Taking", "takeWanted", "(I)V"⟩ ∈ lw_g := mG 13 (by decide +kernel) rfl
theorem w_14 : Cond.selects "LinkHarbour$Settling" ⟨"LinkHarbour$Settling", "weigh", "(II)V"⟩ ⟨"LinkHarbour$Settling", "weigh", "(II)V"⟩ ∈ lw_g := mG 14 (by decide +kernel) rfl
theorem w_15 : Cond.selects "LinkHarbour$Settling" ⟨"LinkHarbour$Settling", "adopt", "(III)V"⟩ ⟨"LinkHarbour$Settling", "adopt", "(III)V"⟩ ∈ lw_g := mG 15 (by decide +kernel) rfl
theorem w_16 : Cond.selects "LinkHarbour$Reaching" ⟨"LinkHarbour$Reaching", "forget", "()V"⟩ ⟨"LinkHarbour$Reaching", "forget", "()V"⟩ ∈ lw_g := mG 16 (by decide +kernel) rfl
theorem w_17 : Cond.selects "LinkHarbour$Reaching" ⟨"LinkHarbour$Reaching", "reachSection", "(I)V"⟩ ⟨"LinkHarbour$Reaching", "reachSection", "(I)V"⟩ ∈ lw_g := mG 17 (by decide +kernel) rfl
theorem w_18 : Cond.selects "LinkHarbour$Reaching" ⟨"LinkHarbour$Reaching", "reachName", "(I)V"⟩ ⟨"LinkHarbour$Reaching", "reachName", "(I)V"⟩ ∈ lw_g := mG 18 (by decide +kernel) rfl
theorem w_19 : Cond.selects "LinkHarbour$Reaching" ⟨"LinkHarbour$Reaching", "follow", "(IZ)V"⟩ ⟨"LinkHarbour$Reaching", "follow", "(IZ)V"⟩ ∈ lw_g := mG 19 (by decide +kernel) rfl
theorem w_20 : Cond.selects "LinkHarbour$SectionTable" ⟨"LinkHarbour$SectionTable", "hasPiece", "(II)Z"⟩ ⟨"LinkHarbour$SectionTable", "hasPiece", "(II)Z"⟩ ∈ lw_g := mG 20 (by decide +kernel) rfl
theorem w_21 : Cond.selects "LinkHarbour$Layout" ⟨"LinkHarbour$Layout", "orderSections", "()V"⟩ ⟨"LinkHarbour$Layout", "orderSections", "()V"⟩ ∈ lw_g := mG 21 (by decide +kernel) rfl
theorem w_22 : Cond.selects "LinkHarbour$Layout" ⟨"LinkHarbour$Layout", "append", "(I)V"⟩ ⟨"LinkHarbour$Layout", "append", "(I)V"⟩ ∈ lw_g := mG 22 (by decide +kernel) rfl
theorem w_23 : Cond.selects "LinkHarbour$Layout" ⟨"LinkHarbour$Layout", "placeSections", "()V"⟩ ⟨"LinkHarbour$Layout", "placeSections", "()V"⟩ ∈ lw_g := mG 23 (by decide +kernel) rfl
theorem w_24 : Cond.selects "LinkHarbour$Layout" ⟨"LinkHarbour$Layout", "wordsAhead", "(II)I"⟩ ⟨"LinkHarbour$Layout", "wordsAhead", "(II)I"⟩ ∈ lw_g := mG 24 (by decide +kernel) rfl
theorem w_25 : Cond.selects "LinkHarbour$Layout" ⟨"LinkHarbour$Layout", "placeCommons", "()V"⟩ ⟨"LinkHarbour$Layout", "placeCommons", "()V"⟩ ∈ lw_g := mG 25 (by decide +kernel) rfl
theorem w_26 : Cond.selects "LinkHarbour$Layout" ⟨"LinkHarbour$Layout", "addressNames", "()V"⟩ ⟨"LinkHarbour$Layout", "addressNames", "()V"⟩ ∈ lw_g := mG 26 (by decide +kernel) rfl
theorem w_27 : Cond.selects "LinkHarbour$Layout" ⟨"LinkHarbour$Layout", "lengthenAll", "(I)Z"⟩ ⟨"LinkHarbour$Layout", "lengthenAll", "(I)Z"⟩ ∈ lw_g := mG 27 (by decide +kernel) rfl
theorem w_28 : Cond.selects "LinkHarbour$Layout" ⟨"LinkHarbour$Layout", "lengthenIn", "(II)Z"⟩ ⟨"LinkHarbour$Layout", "lengthenIn", "(II)Z"⟩ ∈ lw_g := mG 28 (by decide +kernel) rfl
theorem w_29 : Cond.selects "LinkHarbour$Link" ⟨"LinkHarbour$Link", "tellFaults", "(I)V"⟩ ⟨"LinkHarbour$Link", "tellFaults", "(I)V"⟩ ∈ lw_g := mG 29 (by decide +kernel) rfl
theorem w_30 : Cond.selects "LinkHarbour$Link" ⟨"LinkHarbour$Link", "tellFaultsOf", "(III)V"⟩ ⟨"LinkHarbour$Link", "tellFaultsOf", "(III)V"⟩ ∈ lw_g := mG 30 (by decide +kernel) rfl
theorem w_31 : Cond.selects "LinkHarbour" ⟨"LinkHarbour", "addReference", "(IIIIZ)I"⟩ ⟨"LinkHarbour", "addReference", "(IIIIZ)I"⟩ ∈ lw_g := mG 31 (by decide +kernel) rfl
theorem w_32 : Cond.selects "LinkHarbour$Link" ⟨"LinkHarbour$Link", "writePiece", "(LLinkHarbour$Image;III)V"⟩ ⟨"LinkHarbour$Link", "writePiece", "(LLinkHarbour$Image;III)V"⟩ ∈ lw_g := mG 32 (by decide +kernel) rfl
theorem w_33 : Cond.selects "LinkHarbour$LibraryTable" ⟨"LinkHarbour$LibraryTable", "load", "(I)V"⟩ ⟨"LinkHarbour$LibraryTable", "load", "(I)V"⟩ ∈ lw_g := mG 33 (by decide +kernel) rfl
theorem w_34 : Cond.selects "LinkHarbour$LibraryTable" ⟨"LinkHarbour$LibraryTable", "makeGlobal", "(I)V"⟩ ⟨"LinkHarbour$LibraryTable", "makeGlobal", "(I)V"⟩ ∈ lw_g := mG 34 (by decide +kernel) rfl
theorem w_35 : Cond.selects "LinkHarbour$LibraryTable" ⟨"LinkHarbour$LibraryTable", "initialise", "(II)V"⟩ ⟨"LinkHarbour$LibraryTable", "initialise", "(II)V"⟩ ∈ lw_g := mG 35 (by decide +kernel) rfl
theorem w_36 : Cond.selects "LinkHarbour$LibraryTable" ⟨"LinkHarbour$LibraryTable", "finish", "(I)V"⟩ ⟨"LinkHarbour$LibraryTable", "finish", "(I)V"⟩ ∈ lw_g := mG 36 (by decide +kernel) rfl
theorem w_37 : Cond.selects "LinkHarbourModel" ⟨"LinkHarbourModel", "no", "(I)I"⟩ ⟨"LinkHarbourModel", "no", "(I)I"⟩ ∈ lw_g := mG 37 (by decide +kernel) rfl
theorem w_38 : Cond.selects "LinkHarbourModel" ⟨"LinkHarbourModel", "isObject", "(I)Z"⟩ ⟨"LinkHarbourModel", "isObject", "(I)Z"⟩ ∈ lw_g := mG 38 (by decide +kernel) rfl
theorem w_39 : Cond.selects "LinkHarbourModel" ⟨"LinkHarbourModel", "isSection", "(I)Z"⟩ ⟨"LinkHarbourModel", "isSection", "(I)Z"⟩ ∈ lw_g := mG 39 (by decide +kernel) rfl
theorem w_40 : Cond.selects "LinkHarbourModel" ⟨"LinkHarbourModel", "add", "(IIIIZ)I"⟩ ⟨"LinkHarbourModel", "add", "(IIIIZ)I"⟩ ∈ lw_g := mG 40 (by decide +kernel) rfl
theorem w_41 : Cond.selects "LinkHarbourModel" ⟨"LinkHarbourModel", "defineNow", "(IIIIIZ)I"⟩ ⟨"LinkHarbourModel", "defineNow", "(IIIIIZ)I"⟩ ∈ lw_g := mG 41 (by decide +kernel) rfl
theorem w_42 : Cond.selects "LinkHarbourModel" ⟨"LinkHarbourModel", "definitions", "(I)I"⟩ ⟨"LinkHarbourModel", "definitions", "(I)I"⟩ ∈ lw_g := mG 42 (by decide +kernel) rfl
theorem w_43 : Cond.selects "LinkHarbourModel" ⟨"LinkHarbourModel", "ofObjectNow", "(II)I"⟩ ⟨"LinkHarbourModel", "ofObjectNow", "(II)I"⟩ ∈ lw_g := mG 43 (by decide +kernel) rfl
theorem w_44 : Cond.selects "LinkHarbourModel" ⟨"LinkHarbourModel", "sectionsOf", "(I)I"⟩ ⟨"LinkHarbourModel", "sectionsOf", "(I)I"⟩ ∈ lw_g := mG 44 (by decide +kernel) rfl
theorem w_45 : Cond.selects "LinkHarbourModel" ⟨"LinkHarbourModel", "itemOf", "(I)I"⟩ ⟨"LinkHarbourModel", "itemOf", "(I)I"⟩ ∈ lw_g := mG 45 (by decide +kernel) rfl
theorem w_46 : Cond.selects "LinkHarbourModel$Linked" ⟨"LinkHarbourModel$Linked", "endOf", "(I)I"⟩ ⟨"LinkHarbourModel$Linked", "endOf", "(I)I"⟩ ∈ lw_g := mG 46 (by decide +kernel) rfl
theorem w_47 : Cond.selects "LinkHarbourModel$Linked" ⟨"LinkHarbourModel$Linked", "take", "(III)V"⟩ ⟨"LinkHarbourModel$Linked", "take", "(III)V"⟩ ∈ lw_g := mG 47 (by decide +kernel) rfl
theorem w_48 : Cond.selects "LinkHarbourModel$Linked" ⟨"LinkHarbourModel$Linked", "isDrawn", "(I)Z"⟩ ⟨"LinkHarbourModel$Linked", "isDrawn", "(I)Z"⟩ ∈ lw_g := mG 48 (by decide +kernel) rfl
theorem w_49 : Cond.selects "LinkHarbourModel$Linked" ⟨"LinkHarbourModel$Linked", "isWanted", "(I)Z"⟩ ⟨"LinkHarbourModel$Linked", "isWanted", "(I)Z"⟩ ∈ lw_g := mG 49 (by decide +kernel) rfl
theorem w_50 : Cond.selects "LinkHarbourModel$Linked" ⟨"LinkHarbourModel$Linked", "nameAt", "(II)I"⟩ ⟨"LinkHarbourModel$Linked", "nameAt", "(II)I"⟩ ∈ lw_g := mG 50 (by decide +kernel) rfl
theorem w_51 : Cond.selects "LinkHarbourModel$Linked" ⟨"LinkHarbourModel$Linked", "settle", "(I)V"⟩ ⟨"LinkHarbourModel$Linked", "settle", "(I)V"⟩ ∈ lw_g := mG 51 (by decide +kernel) rfl
theorem w_52 : Cond.selects "LinkHarbourModel$Linked" ⟨"LinkHarbourModel$Linked", "firstWith", "(II)I"⟩ ⟨"LinkHarbourModel$Linked", "firstWith", "(II)I"⟩ ∈ lw_g := mG 52 (by decide +kernel) rfl
theorem w_53 : Cond.selects "LinkHarbourModel$Linked" ⟨"LinkHarbourModel$Linked", "fault", "(IIII)V"⟩ ⟨"LinkHarbourModel$Linked", "fault", "(IIII)V"⟩ ∈ lw_g := mG 53 (by decide +kernel) rfl
theorem w_54 : Cond.selects "LinkHarbourModel$Linked" ⟨"LinkHarbourModel$Linked", "reachAll", "()V"⟩ ⟨"LinkHarbourModel$Linked", "reachAll", "()V"⟩ ∈ lw_g := mG 54 (by decide +kernel) rfl
theorem w_55 : Cond.selects "LinkHarbourModel$Linked" ⟨"LinkHarbourModel$Linked", "reachName", "(I)Z"⟩ ⟨"LinkHarbourModel$Linked", "reachName", "(I)Z"⟩ ∈ lw_g := mG 55 (by decide +kernel) rfl
theorem w_56 : Cond.selects "LinkHarbourModel$Linked" ⟨"LinkHarbourModel$Linked", "sectionOf", "(I)I"⟩ ⟨"LinkHarbourModel$Linked", "sectionOf", "(I)I"⟩ ∈ lw_g := mG 56 (by decide +kernel) rfl
theorem w_57 : Cond.selects "LinkHarbourModel$Linked" ⟨"LinkHarbourModel$Linked", "layOut", "()V"⟩ ⟨"LinkHarbourModel$Linked", "layOut", "()V"⟩ ∈ lw_g := mG 57 (by decide +kernel) rfl
theorem w_58 : Cond.selects "LinkHarbourModel$Linked" ⟨"LinkHarbourModel$Linked", "place", "()V"⟩ ⟨"LinkHarbourModel$Linked", "place", "()V"⟩ ∈ lw_g := mG 58 (by decide +kernel) rfl
theorem w_59 : Cond.selects "LinkHarbourModel$Linked" ⟨"LinkHarbourModel$Linked", "wordsUpTo", "(II)I"⟩ ⟨"LinkHarbourModel$Linked", "wordsUpTo", "(II)I"⟩ ∈ lw_g := mG 59 (by decide +kernel) rfl
theorem w_60 : Cond.selects "LinkHarbourModel$Linked" ⟨"LinkHarbourModel$Linked", "wordsOf", "(II)I"⟩ ⟨"LinkHarbourModel$Linked", "wordsOf", "(II)I"⟩ ∈ lw_g := mG 60 (by decide +kernel) rfl
theorem w_61 : Cond.selects "LinkHarbourModel$Linked" ⟨"LinkHarbourModel$Linked", "standsFor", "(I)I"⟩ ⟨"LinkHarbourModel$Linked", "standsFor", "(I)I"⟩ ∈ lw_g := mG 61 (by decide +kernel) rfl
theorem w_62 : Cond.selects "LinkHarbourModel$Linked" ⟨"LinkHarbourModel$Linked", "write", "()V"⟩ ⟨"LinkHarbourModel$Linked", "write", "()V"⟩ ∈ lw_g := mG 62 (by decide +kernel) rfl
theorem w_63 : Cond.selects "LinkHarbourModel$Linked" ⟨"LinkHarbourModel$Linked", "writePiece", "(III)V"⟩ ⟨"LinkHarbourModel$Linked", "writePiece", "(III)V"⟩ ∈ lw_g := mG 63 (by decide +kernel) rfl
theorem w_64 : Cond.selects "LinkHarbourModel$Linked" ⟨"LinkHarbourModel$Linked", "longOf", "(I)I"⟩ ⟨"LinkHarbourModel$Linked", "longOf", "(I)I"⟩ ∈ lw_g := mG 64 (by decide +kernel) rfl
theorem w_65 : Cond.selects "LinkHarbourModel" ⟨"LinkHarbourModel", "ofSectionNow", "(II)I"⟩ ⟨"LinkHarbourModel", "ofSectionNow", "(II)I"⟩ ∈ lw_g := mG 65 (by decide +kernel) rfl
theorem w_66 : Cond.selects "LinkHarbourModel" ⟨"LinkHarbourModel", "ofNameNow", "(II)I"⟩ ⟨"LinkHarbourModel", "ofNameNow", "(II)I"⟩ ∈ lw_g := mG 66 (by decide +kernel) rfl
theorem w_67 : Cond.selects "LinkHarbourModel$Linked" ⟨"LinkHarbourModel$Linked", "ofName", "(II)I"⟩ ⟨"LinkHarbourModel$Linked", "ofName", "(II)I"⟩ ∈ lw_g := mG 67 (by decide +kernel) rfl
theorem w_68 : Cond.selects "LinkHarbourModel" ⟨"LinkHarbourModel", "isLibrary", "(I)Z"⟩ ⟨"LinkHarbourModel", "isLibrary", "(I)Z"⟩ ∈ lw_g := mG 68 (by decide +kernel) rfl
theorem w_69 : Cond.selects "LinkHarbourModel" ⟨"LinkHarbourModel", "rowOf", "(I)[I"⟩ ⟨"LinkHarbourModel", "rowOf", "(I)[I"⟩ ∈ lw_g := mG 69 (by decide +kernel) rfl
theorem w_70 : Cond.selects "LinkHarbourModel" ⟨"LinkHarbourModel", "isLoaded", "(I)Z"⟩ ⟨"LinkHarbourModel", "isLoaded", "(I)Z"⟩ ∈ lw_g := mG 70 (by decide +kernel) rfl
theorem w_71 : Cond.selects "LinkHarbourModel" ⟨"LinkHarbourModel", "baseNow", "()I"⟩ ⟨"LinkHarbourModel", "baseNow", "()I"⟩ ∈ lw_g := mG 71 (by decide +kernel) rfl
theorem w_72 : Cond.selects "LinkHarbourModel" ⟨"LinkHarbourModel", "go", "(III)I"⟩ ⟨"LinkHarbourModel", "go", "(III)I"⟩ ∈ lw_g := mG 72 (by decide +kernel) rfl
theorem w_73 : Cond.selects "LinkHarbourModel" ⟨"LinkHarbourModel", "goesNow", "(I)I"⟩ ⟨"LinkHarbourModel", "goesNow", "(I)I"⟩ ∈ lw_g := mG 73 (by decide +kernel) rfl
theorem w_74 : Cond.selects "LinkHarbourModel" ⟨"LinkHarbourModel", "canCall", "(II)Z"⟩ ⟨"LinkHarbourModel", "canCall", "(II)Z"⟩ ∈ lw_g := mG 74 (by decide +kernel) rfl
theorem w_75 : Cond.selects "LinkHarbourModel" ⟨"LinkHarbourModel", "find", "(II)I"⟩ ⟨"LinkHarbourModel", "find", "(II)I"⟩ ∈ lw_g := mG 75 (by decide +kernel) rfl
theorem w_76 : Cond.selects "LinkHarbourModel" ⟨"LinkHarbourModel", "ofBindingNow", "(III)I"⟩ ⟨"LinkHarbourModel", "ofBindingNow", "(III)I"⟩ ∈ lw_g := mG 76 (by decide +kernel) rfl
theorem w_77 : Cond.selects "LinkHarbourModel" ⟨"LinkHarbourModel", "ofLibraryNow", "(II)I"⟩ ⟨"LinkHarbourModel", "ofLibraryNow", "(II)I"⟩ ∈ lw_g := mG 77 (by decide +kernel) rfl
theorem w_78 : Cond.selects "LinkHarbourModel" ⟨"LinkHarbourModel", "exports", "(I)I"⟩ ⟨"LinkHarbourModel", "exports", "(I)I"⟩ ∈ lw_g := mG 78 (by decide +kernel) rfl
theorem w_79 : Cond.selects "LinkHarbourModel" ⟨"LinkHarbourModel", "manyNow", "(I)I"⟩ ⟨"LinkHarbourModel", "manyNow", "(I)I"⟩ ∈ lw_g := mG 79 (by decide +kernel) rfl
theorem w_80 : Cond.selects "LinkHarbourModel$Linked" ⟨"LinkHarbourModel$Linked", "reachedSections", "()I"⟩ ⟨"LinkHarbourModel$Linked", "reachedSections", "()I"⟩ ∈ lw_g := mG 80 (by decide +kernel) rfl
theorem w_81 : Cond.selects "LinkHarbourModel$Linked" ⟨"LinkHarbourModel$Linked", "allLong", "()I"⟩ ⟨"LinkHarbourModel$Linked", "allLong", "()I"⟩ ∈ lw_g := mG 81 (by decide +kernel) rfl
theorem w_82 : Cond.selects "LinkHarbourModel" ⟨"LinkHarbourModel", "wouldBindNow", "(II)I"⟩ ⟨"LinkHarbourModel", "wouldBindNow", "(II)I"⟩ ∈ lw_g := mG 82 (by decide +kernel) rfl
theorem w_84 : Cond.initialized "LinkHarbour" ∈ lw_g := mG 84 (by decide +kernel) rfl
theorem w_85 : Cond.initialized "LinkHarbour$ObjectTable" ∈ lw_g := mG 85 (by decide +kernel) rfl
theorem w_86 : Cond.initialized "LinkHarbour$SectionTable" ∈ lw_g := mG 86 (by decide +kernel) rfl
theorem w_87 : Cond.initialized "LinkHarbour$ItemRow" ∈ lw_g := mG 87 (by decide +kernel) rfl
theorem w_88 : Cond.initialized "LinkHarbour$LibraryTable" ∈ lw_g := mG 88 (by decide +kernel) rfl
theorem w_89 : Cond.initialized "LinkHarbour$Image" ∈ lw_g := mG 89 (by decide +kernel) rfl
theorem w_90 : Cond.initialized "LinkHarbour$Link" ∈ lw_g := mG 90 (by decide +kernel) rfl
theorem w_91 : Cond.initialized "LinkHarbour$FaultList" ∈ lw_g := mG 91 (by decide +kernel) rfl
theorem w_92 : Cond.initialized "LinkHarbour$Taking" ∈ lw_g := mG 92 (by decide +kernel) rfl
theorem w_93 : Cond.initialized "LinkHarbour$Settling" ∈ lw_g := mG 93 (by decide +kernel) rfl
theorem w_94 : Cond.initialized "LinkHarbour$Reaching" ∈ lw_g := mG 94 (by decide +kernel) rfl
theorem w_95 : Cond.initialized "LinkHarbour$Layout" ∈ lw_g := mG 95 (by decide +kernel) rfl
theorem w_96 : Cond.initialized "LinkHarbourModel" ∈ lw_g := mG 96 (by decide +kernel) rfl
theorem w_100 : Cond.initialized "java/lang/IllegalStateException" ∈ lw_g := mG 100 (by decide +kernel) rfl
theorem w_101 : Cond.initialized "java/lang/IndexOutOfBoundsException" ∈ lw_g := mG 101 (by decide +kernel) rfl
theorem w_102 : Cond.initialized "java/lang/IllegalArgumentException" ∈ lw_g := mG 102 (by decide +kernel) rfl
theorem w_103 : Cond.initialized "java/lang/Integer" ∈ lw_g := mG 103 (by decide +kernel) rfl
theorem w_104 : Cond.initialized "java/lang/Math" ∈ lw_g := mG 104 (by decide +kernel) rfl
theorem w_105 : Cond.initialized "LinkHarbourModel$Linked" ∈ lw_g := mG 105 (by decide +kernel) rfl
theorem w_106 : Cond.initialized "java/lang/System" ∈ lw_g := mG 106 (by decide +kernel) rfl
theorem w_112 : Cond.methodLink "LinkHarbour" 3 ⟨"java/lang/Object", "<init>", "()V"⟩ ∈ lw_g := mG 112 (by decide +kernel) rfl
theorem w_113 : Cond.instanceMethod ⟨"java/lang/Object", "<init>", "()V"⟩ ∈ lw_g := mG 113 (by decide +kernel) rfl
theorem w_115 : Cond.classLink "LinkHarbour" 9 "LinkHarbour$ObjectTable" ∈ lw_g := mG 115 (by decide +kernel) rfl
theorem w_116 : Cond.instantiable "LinkHarbour$ObjectTable" 10 ∈ lw_g := mG 116 (by decide +kernel) rfl
theorem w_118 : Cond.instanceMethod ⟨"LinkHarbour$ObjectTable", "<init>", "()V"⟩ ∈ lw_g := mG 118 (by decide +kernel) rfl
theorem w_120 : Cond.methodLink "LinkHarbour$ObjectTable" 3 ⟨"java/lang/Object", "<init>", "()V"⟩ ∈ lw_g := mG 120 (by decide +kernel) rfl
theorem w_121 : Cond.fieldLink "LinkHarbour$ObjectTable" 9 "LinkHarbour$ObjectTable" "defined" "[I" ∈ lw_g := mG 121 (by decide +kernel) rfl
theorem w_122 : Cond.fieldLink "LinkHarbour$ObjectTable" 15 "LinkHarbour$ObjectTable" "offered" "[I" ∈ lw_g := mG 122 (by decide +kernel) rfl
theorem w_123 : Cond.fieldLink "LinkHarbour$ObjectTable" 18 "LinkHarbour$ObjectTable" "needed" "[I" ∈ lw_g := mG 123 (by decide +kernel) rfl
theorem w_124 : Cond.fieldLink "LinkHarbour$ObjectTable" 21 "LinkHarbour$ObjectTable" "kindOf" "[I" ∈ lw_g := mG 124 (by decide +kernel) rfl
theorem w_125 : Cond.fieldLink "LinkHarbour$ObjectTable" 24 "LinkHarbour$ObjectTable" "sectionOf" "[I" ∈ lw_g := mG 125 (by decide +kernel) rfl
theorem w_126 : Cond.fieldLink "LinkHarbour$ObjectTable" 27 "LinkHarbour$ObjectTable" "placeOf" "[I" ∈ lw_g := mG 126 (by decide +kernel) rfl
theorem w_127 : Cond.fieldLink "LinkHarbour$ObjectTable" 30 "LinkHarbour$ObjectTable" "sizeOf" "[I" ∈ lw_g := mG 127 (by decide +kernel) rfl
theorem w_128 : Cond.fieldLink "LinkHarbour$ObjectTable" 33 "LinkHarbour$ObjectTable" "alignOf" "[I" ∈ lw_g := mG 128 (by decide +kernel) rfl
theorem w_129 : Cond.fieldLink "LinkHarbour$ObjectTable" 36 "LinkHarbour$ObjectTable" "hidden" "[I" ∈ lw_g := mG 129 (by decide +kernel) rfl
theorem w_130 : Cond.fieldLink "LinkHarbour$ObjectTable" 39 "LinkHarbour$ObjectTable" "count" "I" ∈ lw_g := mG 130 (by decide +kernel) rfl
theorem w_131 : Cond.laysFinal "LinkHarbour$ObjectTable" "LinkHarbour$ObjectTable" "defined" "[I" ∈ lw_g := mG 131 (by decide +kernel) rfl
theorem w_133 : Cond.laysFinal "LinkHarbour$ObjectTable" "LinkHarbour$ObjectTable" "offered" "[I" ∈ lw_g := mG 133 (by decide +kernel) rfl
theorem w_135 : Cond.laysFinal "LinkHarbour$ObjectTable" "LinkHarbour$ObjectTable" "needed" "[I" ∈ lw_g := mG 135 (by decide +kernel) rfl
theorem w_137 : Cond.laysFinal "LinkHarbour$ObjectTable" "LinkHarbour$ObjectTable" "kindOf" "[I" ∈ lw_g := mG 137 (by decide +kernel) rfl
theorem w_139 : Cond.laysFinal "LinkHarbour$ObjectTable" "LinkHarbour$ObjectTable" "sectionOf" "[I" ∈ lw_g := mG 139 (by decide +kernel) rfl
theorem w_141 : Cond.laysFinal "LinkHarbour$ObjectTable" "LinkHarbour$ObjectTable" "placeOf" "[I" ∈ lw_g := mG 141 (by decide +kernel) rfl
theorem w_143 : Cond.laysFinal "LinkHarbour$ObjectTable" "LinkHarbour$ObjectTable" "sizeOf" "[I" ∈ lw_g := mG 143 (by decide +kernel) rfl
theorem w_145 : Cond.laysFinal "LinkHarbour$ObjectTable" "LinkHarbour$ObjectTable" "alignOf" "[I" ∈ lw_g := mG 145 (by decide +kernel) rfl
theorem w_147 : Cond.laysFinal "LinkHarbour$ObjectTable" "LinkHarbour$ObjectTable" "hidden" "[I" ∈ lw_g := mG 147 (by decide +kernel) rfl
theorem w_149 : Cond.lays "LinkHarbour$ObjectTable" "LinkHarbour$ObjectTable" "count" "I" ∈ lw_g := mG 149 (by decide +kernel) rfl
theorem w_152 : Cond.arrayClass .int ∈ lw_g := mG 152 (by decide +kernel) rfl
theorem w_153 : Cond.classLink "LinkHarbour" 16 "LinkHarbour$SectionTable" ∈ lw_g := mG 153 (by decide +kernel) rfl
theorem w_154 : Cond.instantiable "LinkHarbour$SectionTable" 9 ∈ lw_g := mG 154 (by decide +kernel) rfl
theorem w_156 : Cond.instanceMethod ⟨"LinkHarbour$SectionTable", "<init>", "()V"⟩ ∈ lw_g := mG 156 (by decide +kernel) rfl
theorem w_158 : Cond.methodLink "LinkHarbour$SectionTable" 3 ⟨"java/lang/Object", "<init>", "()V"⟩ ∈ lw_g := mG 158 (by decide +kernel) rfl
theorem w_159 : Cond.fieldLink "LinkHarbour$SectionTable" 9 "LinkHarbour$SectionTable" "objectOf" "[I" ∈ lw_g := mG 159 (by decide +kernel) rfl
theorem w_160 : Cond.fieldLink "LinkHarbour$SectionTable" 15 "LinkHarbour$SectionTable" "alignOf" "[I" ∈ lw_g := mG 160 (by decide +kernel) rfl
theorem w_161 : Cond.fieldLink "LinkHarbour$SectionTable" 18 "LinkHarbour$SectionTable" "keptOf" "[Z" ∈ lw_g := mG 161 (by decide +kernel) rfl
theorem w_162 : Cond.fieldLink "LinkHarbour$SectionTable" 22 "LinkHarbour$SectionTable" "piecesOf" "[I" ∈ lw_g := mG 162 (by decide +kernel) rfl
theorem w_163 : Cond.fieldLink "LinkHarbour$SectionTable" 25 "LinkHarbour$SectionTable" "kindOf" "[I" ∈ lw_g := mG 163 (by decide +kernel) rfl
theorem w_164 : Cond.fieldLink "LinkHarbour$SectionTable" 28 "LinkHarbour$SectionTable" "valueOf" "[I" ∈ lw_g := mG 164 (by decide +kernel) rfl
theorem w_165 : Cond.fieldLink "LinkHarbour$SectionTable" 31 "LinkHarbour$SectionTable" "addedOf" "[I" ∈ lw_g := mG 165 (by decide +kernel) rfl
theorem w_166 : Cond.fieldLink "LinkHarbour$SectionTable" 34 "LinkHarbour$SectionTable" "weakOf" "[Z" ∈ lw_g := mG 166 (by decide +kernel) rfl
theorem w_167 : Cond.fieldLink "LinkHarbour$SectionTable" 37 "LinkHarbour$SectionTable" "count" "I" ∈ lw_g := mG 167 (by decide +kernel) rfl
theorem w_168 : Cond.laysFinal "LinkHarbour$SectionTable" "LinkHarbour$SectionTable" "objectOf" "[I" ∈ lw_g := mG 168 (by decide +kernel) rfl
theorem w_170 : Cond.laysFinal "LinkHarbour$SectionTable" "LinkHarbour$SectionTable" "alignOf" "[I" ∈ lw_g := mG 170 (by decide +kernel) rfl
theorem w_172 : Cond.laysFinal "LinkHarbour$SectionTable" "LinkHarbour$SectionTable" "keptOf" "[Z" ∈ lw_g := mG 172 (by decide +kernel) rfl
theorem w_174 : Cond.laysFinal "LinkHarbour$SectionTable" "LinkHarbour$SectionTable" "piecesOf" "[I" ∈ lw_g := mG 174 (by decide +kernel) rfl
theorem w_176 : Cond.laysFinal "LinkHarbour$SectionTable" "LinkHarbour$SectionTable" "kindOf" "[I" ∈ lw_g := mG 176 (by decide +kernel) rfl
theorem w_178 : Cond.laysFinal "LinkHarbour$SectionTable" "LinkHarbour$SectionTable" "valueOf" "[I" ∈ lw_g := mG 178 (by decide +kernel) rfl
theorem w_180 : Cond.laysFinal "LinkHarbour$SectionTable" "LinkHarbour$SectionTable" "addedOf" "[I" ∈ lw_g := mG 180 (by decide +kernel) rfl
theorem w_182 : Cond.laysFinal "LinkHarbour$SectionTable" "LinkHarbour$SectionTable" "weakOf" "[Z" ∈ lw_g := mG 182 (by decide +kernel) rfl
theorem w_184 : Cond.lays "LinkHarbour$SectionTable" "LinkHarbour$SectionTable" "count" "I" ∈ lw_g := mG 184 (by decide +kernel) rfl
theorem w_187 : Cond.arrayClass .boolean ∈ lw_g := mG 187 (by decide +kernel) rfl
theorem w_188 : Cond.classLink "LinkHarbour" 23 "LinkHarbour$ItemRow" ∈ lw_g := mG 188 (by decide +kernel) rfl
theorem w_189 : Cond.instantiable "LinkHarbour$ItemRow" 3 ∈ lw_g := mG 189 (by decide +kernel) rfl
theorem w_191 : Cond.instanceMethod ⟨"LinkHarbour$ItemRow", "<init>", "()V"⟩ ∈ lw_g := mG 191 (by decide +kernel) rfl
theorem w_193 : Cond.methodLink "LinkHarbour$ItemRow" 3 ⟨"java/lang/Object", "<init>", "()V"⟩ ∈ lw_g := mG 193 (by decide +kernel) rfl
theorem w_194 : Cond.fieldLink "LinkHarbour$ItemRow" 9 "LinkHarbour$ItemRow" "sets" "[I" ∈ lw_g := mG 194 (by decide +kernel) rfl
theorem w_195 : Cond.fieldLink "LinkHarbour$ItemRow" 15 "LinkHarbour$ItemRow" "kinds" "[I" ∈ lw_g := mG 195 (by decide +kernel) rfl
theorem w_196 : Cond.fieldLink "LinkHarbour$ItemRow" 18 "LinkHarbour$ItemRow" "count" "I" ∈ lw_g := mG 196 (by decide +kernel) rfl
theorem w_197 : Cond.laysFinal "LinkHarbour$ItemRow" "LinkHarbour$ItemRow" "sets" "[I" ∈ lw_g := mG 197 (by decide +kernel) rfl
theorem w_199 : Cond.laysFinal "LinkHarbour$ItemRow" "LinkHarbour$ItemRow" "kinds" "[I" ∈ lw_g := mG 199 (by decide +kernel) rfl
theorem w_201 : Cond.lays "LinkHarbour$ItemRow" "LinkHarbour$ItemRow" "count" "I" ∈ lw_g := mG 201 (by decide +kernel) rfl
theorem w_204 : Cond.classLink "LinkHarbour" 30 "LinkHarbour$LibraryTable" ∈ lw_g := mG 204 (by decide +kernel) rfl
theorem w_205 : Cond.instantiable "LinkHarbour$LibraryTable" 16 ∈ lw_g := mG 205 (by decide +kernel) rfl
theorem w_206 : Cond.methodLink "LinkHarbour" 32 ⟨"LinkHarbour$LibraryTable", "<init>", "()V"⟩ ∈ lw_g := mG 206 (by decide +kernel) rfl
theorem w_207 : Cond.instanceMethod ⟨"LinkHarbour$LibraryTable", "<init>", "()V"⟩ ∈ lw_g := mG 207 (by decide +kernel) rfl
theorem w_209 : Cond.methodLink "LinkHarbour$LibraryTable" 3 ⟨"java/lang/Object", "<init>", "()V"⟩ ∈ lw_g := mG 209 (by decide +kernel) rfl
theorem w_210 : Cond.fieldLink "LinkHarbour$LibraryTable" 9 "LinkHarbour$LibraryTable" "sizeOf" "[I" ∈ lw_g := mG 210 (by decide +kernel) rfl
theorem w_211 : Cond.fieldLink "LinkHarbour$LibraryTable" 15 "LinkHarbour$LibraryTable" "needsOf" "[I" ∈ lw_g := mG 211 (by decide +kernel) rfl
theorem w_212 : Cond.fieldLink "LinkHarbour$LibraryTable" 18 "LinkHarbour$LibraryTable" "exportsOf" "[I" ∈ lw_g := mG 212 (by decide +kernel) rfl
theorem w_213 : Cond.fieldLink "LinkHarbour$LibraryTable" 21 "LinkHarbour$LibraryTable" "importsOf" "[I" ∈ lw_g := mG 213 (by decide +kernel) rfl
theorem w_214 : Cond.fieldLink "LinkHarbour$LibraryTable" 24 "LinkHarbour$LibraryTable" "addressOf" "[I" ∈ lw_g := mG 214 (by decide +kernel) rfl
theorem w_215 : Cond.fieldLink "LinkHarbour$LibraryTable" 27 "LinkHarbour$LibraryTable" "openedOf" "[I" ∈ lw_g := mG 215 (by decide +kernel) rfl
theorem w_216 : Cond.fieldLink "LinkHarbour$LibraryTable" 30 "LinkHarbour$LibraryTable" "baseOf" "[I" ∈ lw_g := mG 216 (by decide +kernel) rfl
theorem w_217 : Cond.fieldLink "LinkHarbour$LibraryTable" 33 "LinkHarbour$LibraryTable" "boundTo" "[I" ∈ lw_g := mG 217 (by decide +kernel) rfl
theorem w_218 : Cond.fieldLink "LinkHarbour$LibraryTable" 36 "LinkHarbour$LibraryTable" "global" "[I" ∈ lw_g := mG 218 (by decide +kernel) rfl
theorem w_219 : Cond.fieldLink "LinkHarbour$LibraryTable" 39 "LinkHarbour$LibraryTable" "initialised" "[I" ∈ lw_g := mG 219 (by decide +kernel) rfl
theorem w_220 : Cond.fieldLink "LinkHarbour$LibraryTable" 42 "LinkHarbour$LibraryTable" "row" "[I" ∈ lw_g := mG 220 (by decide +kernel) rfl
theorem w_221 : Cond.fieldLink "LinkHarbour$LibraryTable" 45 "LinkHarbour$LibraryTable" "way" "[I" ∈ lw_g := mG 221 (by decide +kernel) rfl
theorem w_222 : Cond.fieldLink "LinkHarbour$LibraryTable" 48 "LinkHarbour$LibraryTable" "rowSet" "I" ∈ lw_g := mG 222 (by decide +kernel) rfl
theorem w_223 : Cond.fieldLink "LinkHarbour$LibraryTable" 52 "LinkHarbour$LibraryTable" "count" "I" ∈ lw_g := mG 223 (by decide +kernel) rfl
theorem w_224 : Cond.fieldLink "LinkHarbour$LibraryTable" 55 "LinkHarbour$LibraryTable" "globalCount" "I" ∈ lw_g := mG 224 (by decide +kernel) rfl
theorem w_225 : Cond.fieldLink "LinkHarbour$LibraryTable" 58 "LinkHarbour$LibraryTable" "initialisedCount" "I" ∈ lw_g := mG 225 (by decide +kernel) rfl
theorem w_226 : Cond.laysFinal "LinkHarbour$LibraryTable" "LinkHarbour$LibraryTable" "sizeOf" "[I" ∈ lw_g := mG 226 (by decide +kernel) rfl
theorem w_228 : Cond.laysFinal "LinkHarbour$LibraryTable" "LinkHarbour$LibraryTable" "needsOf" "[I" ∈ lw_g := mG 228 (by decide +kernel) rfl
theorem w_230 : Cond.laysFinal "LinkHarbour$LibraryTable" "LinkHarbour$LibraryTable" "exportsOf" "[I" ∈ lw_g := mG 230 (by decide +kernel) rfl
theorem w_232 : Cond.laysFinal "LinkHarbour$LibraryTable" "LinkHarbour$LibraryTable" "importsOf" "[I" ∈ lw_g := mG 232 (by decide +kernel) rfl
theorem w_234 : Cond.laysFinal "LinkHarbour$LibraryTable" "LinkHarbour$LibraryTable" "addressOf" "[I" ∈ lw_g := mG 234 (by decide +kernel) rfl
theorem w_236 : Cond.laysFinal "LinkHarbour$LibraryTable" "LinkHarbour$LibraryTable" "openedOf" "[I" ∈ lw_g := mG 236 (by decide +kernel) rfl
theorem w_238 : Cond.laysFinal "LinkHarbour$LibraryTable" "LinkHarbour$LibraryTable" "baseOf" "[I" ∈ lw_g := mG 238 (by decide +kernel) rfl
theorem w_240 : Cond.laysFinal "LinkHarbour$LibraryTable" "LinkHarbour$LibraryTable" "boundTo" "[I" ∈ lw_g := mG 240 (by decide +kernel) rfl
theorem w_242 : Cond.laysFinal "LinkHarbour$LibraryTable" "LinkHarbour$LibraryTable" "global" "[I" ∈ lw_g := mG 242 (by decide +kernel) rfl
theorem w_244 : Cond.laysFinal "LinkHarbour$LibraryTable" "LinkHarbour$LibraryTable" "initialised" "[I" ∈ lw_g := mG 244 (by decide +kernel) rfl
theorem w_246 : Cond.laysFinal "LinkHarbour$LibraryTable" "LinkHarbour$LibraryTable" "row" "[I" ∈ lw_g := mG 246 (by decide +kernel) rfl
theorem w_248 : Cond.laysFinal "LinkHarbour$LibraryTable" "LinkHarbour$LibraryTable" "way" "[I" ∈ lw_g := mG 248 (by decide +kernel) rfl
theorem w_250 : Cond.lays "LinkHarbour$LibraryTable" "LinkHarbour$LibraryTable" "rowSet" "I" ∈ lw_g := mG 250 (by decide +kernel) rfl
theorem w_252 : Cond.lays "LinkHarbour$LibraryTable" "LinkHarbour$LibraryTable" "count" "I" ∈ lw_g := mG 252 (by decide +kernel) rfl
theorem w_254 : Cond.lays "LinkHarbour$LibraryTable" "LinkHarbour$LibraryTable" "globalCount" "I" ∈ lw_g := mG 254 (by decide +kernel) rfl
theorem w_256 : Cond.lays "LinkHarbour$LibraryTable" "LinkHarbour$LibraryTable" "initialisedCount" "I" ∈ lw_g := mG 256 (by decide +kernel) rfl
theorem w_259 : Cond.classLink "LinkHarbour" 37 "LinkHarbour$Image" ∈ lw_g := mG 259 (by decide +kernel) rfl
theorem w_260 : Cond.instantiable "LinkHarbour$Image" 1 ∈ lw_g := mG 260 (by decide +kernel) rfl
theorem w_262 : Cond.instanceMethod ⟨"LinkHarbour$Image", "<init>", "()V"⟩ ∈ lw_g := mG 262 (by decide +kernel) rfl
theorem w_264 : Cond.methodLink "LinkHarbour$Image" 3 ⟨"java/lang/Object", "<init>", "()V"⟩ ∈ lw_g := mG 264 (by decide +kernel) rfl
theorem w_265 : Cond.fieldLink "LinkHarbour$Image" 9 "LinkHarbour$Image" "words" "[I" ∈ lw_g := mG 265 (by decide +kernel) rfl
theorem w_266 : Cond.lays "LinkHarbour$Image" "LinkHarbour$Image" "words" "[I" ∈ lw_g := mG 266 (by decide +kernel) rfl
theorem w_269 : Cond.classLink "LinkHarbour" 51 "LinkHarbour$Link" ∈ lw_g := mG 269 (by decide +kernel) rfl
theorem w_270 : Cond.instantiable "LinkHarbour$Link" 9 ∈ lw_g := mG 270 (by decide +kernel) rfl
theorem w_271 : Cond.methodLink "LinkHarbour" 53 ⟨"LinkHarbour$Link", "<init>", "(LLinkHarbour$ObjectTable;LLinkHarbour$SectionTable;LLinkHarbour$ItemRow;)V"⟩ ∈ lw_g := mG 271 (by decide +kernel) rfl
theorem w_272 : Cond.instanceMethod ⟨"LinkHarbour$Link", "<init>", "(LLinkHarbour$ObjectTable;LLinkHarbour$SectionTable;LLinkHarbour$ItemRow;)V"⟩ ∈ lw_g := mG 272 (by decide +kernel) rfl
theorem w_274 : Cond.methodLink "LinkHarbour$Link" 3 ⟨"java/lang/Object", "<init>", "()V"⟩ ∈ lw_g := mG 274 (by decide +kernel) rfl
theorem w_275 : Cond.classLink "LinkHarbour$Link" 9 "LinkHarbour$FaultList" ∈ lw_g := mG 275 (by decide +kernel) rfl
theorem w_276 : Cond.instantiable "LinkHarbour$FaultList" 2 ∈ lw_g := mG 276 (by decide +kernel) rfl
theorem w_278 : Cond.instanceMethod ⟨"LinkHarbour$FaultList", "<init>", "()V"⟩ ∈ lw_g := mG 278 (by decide +kernel) rfl
theorem w_280 : Cond.methodLink "LinkHarbour$FaultList" 3 ⟨"java/lang/Object", "<init>", "()V"⟩ ∈ lw_g := mG 280 (by decide +kernel) rfl
theorem w_281 : Cond.fieldLink "LinkHarbour$FaultList" 9 "LinkHarbour$FaultList" "parts" "[I" ∈ lw_g := mG 281 (by decide +kernel) rfl
theorem w_282 : Cond.fieldLink "LinkHarbour$FaultList" 15 "LinkHarbour$FaultList" "count" "I" ∈ lw_g := mG 282 (by decide +kernel) rfl
theorem w_283 : Cond.laysFinal "LinkHarbour$FaultList" "LinkHarbour$FaultList" "parts" "[I" ∈ lw_g := mG 283 (by decide +kernel) rfl
theorem w_285 : Cond.lays "LinkHarbour$FaultList" "LinkHarbour$FaultList" "count" "I" ∈ lw_g := mG 285 (by decide +kernel) rfl
theorem w_288 : Cond.classLink "LinkHarbour$Link" 33 "LinkHarbour$Taking" ∈ lw_g := mG 288 (by decide +kernel) rfl
theorem w_289 : Cond.instantiable "LinkHarbour$Taking" 7 ∈ lw_g := mG 289 (by decide +kernel) rfl
theorem w_290 : Cond.methodLink "LinkHarbour$Link" 35 ⟨"LinkHarbour$Taking", "<init>", "(LLinkHarbour$ObjectTable;LLinkHarbour$ItemRow;)V"⟩ ∈ lw_g := mG 290 (by decide +kernel) rfl
theorem w_291 : Cond.instanceMethod ⟨"LinkHarbour$Taking", "<init>", "(LLinkHarbour$ObjectTable;LLinkHarbour$ItemRow;)V"⟩ ∈ lw_g := mG 291 (by decide +kernel) rfl
theorem w_293 : Cond.methodLink "LinkHarbour$Taking" 3 ⟨"java/lang/Object", "<init>", "()V"⟩ ∈ lw_g := mG 293 (by decide +kernel) rfl
theorem w_294 : Cond.fieldLink "LinkHarbour$Taking" 28 "LinkHarbour$Taking" "objects" "LLinkHarbour$ObjectTable;" ∈ lw_g := mG 294 (by decide +kernel) rfl
theorem w_295 : Cond.fieldLink "LinkHarbour$Taking" 32 "LinkHarbour$Taking" "items" "LLinkHarbour$ItemRow;" ∈ lw_g := mG 295 (by decide +kernel) rfl
theorem w_296 : Cond.fieldLink "LinkHarbour$Taking" 9 "LinkHarbour$Taking" "order" "[I" ∈ lw_g := mG 296 (by decide +kernel) rfl
theorem w_297 : Cond.fieldLink "LinkHarbour$Taking" 15 "LinkHarbour$Taking" "count" "I" ∈ lw_g := mG 297 (by decide +kernel) rfl
theorem w_298 : Cond.fieldLink "LinkHarbour$Taking" 19 "LinkHarbour$Taking" "taken" "I" ∈ lw_g := mG 298 (by decide +kernel) rfl
theorem w_299 : Cond.fieldLink "LinkHarbour$Taking" 22 "LinkHarbour$Taking" "needed" "I" ∈ lw_g := mG 299 (by decide +kernel) rfl
theorem w_300 : Cond.fieldLink "LinkHarbour$Taking" 25 "LinkHarbour$Taking" "defined" "I" ∈ lw_g := mG 300 (by decide +kernel) rfl
theorem w_301 : Cond.laysFinal "LinkHarbour$Taking" "LinkHarbour$Taking" "objects" "LLinkHarbour$ObjectTable;" ∈ lw_g := mG 301 (by decide +kernel) rfl
theorem w_303 : Cond.laysFinal "LinkHarbour$Taking" "LinkHarbour$Taking" "items" "LLinkHarbour$ItemRow;" ∈ lw_g := mG 303 (by decide +kernel) rfl
theorem w_305 : Cond.laysFinal "LinkHarbour$Taking" "LinkHarbour$Taking" "order" "[I" ∈ lw_g := mG 305 (by decide +kernel) rfl
theorem w_307 : Cond.lays "LinkHarbour$Taking" "LinkHarbour$Taking" "count" "I" ∈ lw_g := mG 307 (by decide +kernel) rfl
theorem w_309 : Cond.lays "LinkHarbour$Taking" "LinkHarbour$Taking" "taken" "I" ∈ lw_g := mG 309 (by decide +kernel) rfl
theorem w_311 : Cond.lays "LinkHarbour$Taking" "LinkHarbour$Taking" "needed" "I" ∈ lw_g := mG 311 (by decide +kernel) rfl
theorem w_313 : Cond.lays "LinkHarbour$Taking" "LinkHarbour$Taking" "defined" "I" ∈ lw_g := mG 313 (by decide +kernel) rfl
theorem w_316 : Cond.classLink "LinkHarbour$Link" 42 "LinkHarbour$Settling" ∈ lw_g := mG 316 (by decide +kernel) rfl
theorem w_317 : Cond.instantiable "LinkHarbour$Settling" 10 ∈ lw_g := mG 317 (by decide +kernel) rfl
theorem w_318 : Cond.methodLink "LinkHarbour$Link" 44 ⟨"LinkHarbour$Settling", "<init>", "(LLinkHarbour$ObjectTable;LLinkHarbour$Taking;)V"⟩ ∈ lw_g := mG 318 (by decide +kernel) rfl
theorem w_319 : Cond.instanceMethod ⟨"LinkHarbour$Settling", "<init>", "(LLinkHarbour$ObjectTable;LLinkHarbour$Taking;)V"⟩ ∈ lw_g := mG 319 (by decide +kernel) rfl
theorem w_321 : Cond.methodLink "LinkHarbour$Settling" 3 ⟨"java/lang/Object", "<init>", "()V"⟩ ∈ lw_g := mG 321 (by decide +kernel) rfl
theorem w_322 : Cond.methodLink "LinkHarbour$Settling" 45 ⟨"LinkHarbour$Settling", "forget", "()V"⟩ ∈ lw_g := mG 322 (by decide +kernel) rfl
theorem w_324 : Cond.instanceMethod ⟨"LinkHarbour$Settling", "forget", "()V"⟩ ∈ lw_g := mG 324 (by decide +kernel) rfl
theorem w_326 : Cond.fieldLink "LinkHarbour$Settling" 37 "LinkHarbour$Settling" "objects" "LLinkHarbour$ObjectTable;" ∈ lw_g := mG 326 (by decide +kernel) rfl
theorem w_327 : Cond.fieldLink "LinkHarbour$Settling" 41 "LinkHarbour$Settling" "taking" "LLinkHarbour$Taking;" ∈ lw_g := mG 327 (by decide +kernel) rfl
theorem w_328 : Cond.fieldLink "LinkHarbour$Settling" 9 "LinkHarbour$Settling" "kindOf" "[I" ∈ lw_g := mG 328 (by decide +kernel) rfl
theorem w_329 : Cond.fieldLink "LinkHarbour$Settling" 15 "LinkHarbour$Settling" "objectOf" "[I" ∈ lw_g := mG 329 (by decide +kernel) rfl
theorem w_330 : Cond.fieldLink "LinkHarbour$Settling" 18 "LinkHarbour$Settling" "sectionOf" "[I" ∈ lw_g := mG 330 (by decide +kernel) rfl
theorem w_331 : Cond.fieldLink "LinkHarbour$Settling" 21 "LinkHarbour$Settling" "placeOf" "[I" ∈ lw_g := mG 331 (by decide +kernel) rfl
theorem w_332 : Cond.fieldLink "LinkHarbour$Settling" 24 "LinkHarbour$Settling" "sizeOf" "[I" ∈ lw_g := mG 332 (by decide +kernel) rfl
theorem w_333 : Cond.fieldLink "LinkHarbour$Settling" 27 "LinkHarbour$Settling" "alignOf" "[I" ∈ lw_g := mG 333 (by decide +kernel) rfl
theorem w_334 : Cond.fieldLink "LinkHarbour$Settling" 30 "LinkHarbour$Settling" "hidden" "I" ∈ lw_g := mG 334 (by decide +kernel) rfl
theorem w_335 : Cond.fieldLink "LinkHarbour$Settling" 34 "LinkHarbour$Settling" "twiceStrong" "I" ∈ lw_g := mG 335 (by decide +kernel) rfl
theorem w_336 : Cond.laysFinal "LinkHarbour$Settling" "LinkHarbour$Settling" "objects" "LLinkHarbour$ObjectTable;" ∈ lw_g := mG 336 (by decide +kernel) rfl
theorem w_338 : Cond.laysFinal "LinkHarbour$Settling" "LinkHarbour$Settling" "taking" "LLinkHarbour$Taking;" ∈ lw_g := mG 338 (by decide +kernel) rfl
theorem w_340 : Cond.laysFinal "LinkHarbour$Settling" "LinkHarbour$Settling" "kindOf" "[I" ∈ lw_g := mG 340 (by decide +kernel) rfl
theorem w_342 : Cond.laysFinal "LinkHarbour$Settling" "LinkHarbour$Settling" "objectOf" "[I" ∈ lw_g := mG 342 (by decide +kernel) rfl
theorem w_344 : Cond.laysFinal "LinkHarbour$Settling" "LinkHarbour$Settling" "sectionOf" "[I" ∈ lw_g := mG 344 (by decide +kernel) rfl
theorem w_346 : Cond.laysFinal "LinkHarbour$Settling" "LinkHarbour$Settling" "placeOf" "[I" ∈ lw_g := mG 346 (by decide +kernel) rfl
theorem w_348 : Cond.laysFinal "LinkHarbour$Settling" "LinkHarbour$Settling" "sizeOf" "[I" ∈ lw_g := mG 348 (by decide +kernel) rfl
theorem w_350 : Cond.laysFinal "LinkHarbour$Settling" "LinkHarbour$Settling" "alignOf" "[I" ∈ lw_g := mG 350 (by decide +kernel) rfl
theorem w_352 : Cond.lays "LinkHarbour$Settling" "LinkHarbour$Settling" "hidden" "I" ∈ lw_g := mG 352 (by decide +kernel) rfl
theorem w_354 : Cond.lays "LinkHarbour$Settling" "LinkHarbour$Settling" "twiceStrong" "I" ∈ lw_g := mG 354 (by decide +kernel) rfl
theorem w_357 : Cond.classLink "LinkHarbour$Link" 51 "LinkHarbour$Reaching" ∈ lw_g := mG 357 (by decide +kernel) rfl
theorem w_358 : Cond.instantiable "LinkHarbour$Reaching" 9 ∈ lw_g := mG 358 (by decide +kernel) rfl
theorem w_359 : Cond.methodLink "LinkHarbour$Link" 53 ⟨"LinkHarbour$Reaching", "<init>", "(LLinkHarbour$SectionTable;LLinkHarbour$Taking;LLinkHarbour$Settling;)V"⟩ ∈ lw_g := mG 359 (by decide +kernel) rfl
theorem w_360 : Cond.instanceMethod ⟨"LinkHarbour$Reaching", "<init>", "(LLinkHarbour$SectionTable;LLinkHarbour$Taking;LLinkHarbour$Settling;)V"⟩ ∈ lw_g := mG 360 (by decide +kernel) rfl
theorem w_362 : Cond.methodLink "LinkHarbour$Reaching" 3 ⟨"java/lang/Object", "<init>", "()V"⟩ ∈ lw_g := mG 362 (by decide +kernel) rfl
theorem w_363 : Cond.fieldLink "LinkHarbour$Reaching" 31 "LinkHarbour$Reaching" "sections" "LLinkHarbour$SectionTable;" ∈ lw_g := mG 363 (by decide +kernel) rfl
theorem w_364 : Cond.fieldLink "LinkHarbour$Reaching" 35 "LinkHarbour$Reaching" "taking" "LLinkHarbour$Taking;" ∈ lw_g := mG 364 (by decide +kernel) rfl
theorem w_365 : Cond.fieldLink "LinkHarbour$Reaching" 39 "LinkHarbour$Reaching" "settling" "LLinkHarbour$Settling;" ∈ lw_g := mG 365 (by decide +kernel) rfl
theorem w_366 : Cond.fieldLink "LinkHarbour$Reaching" 9 "LinkHarbour$Reaching" "found" "[I" ∈ lw_g := mG 366 (by decide +kernel) rfl
theorem w_367 : Cond.fieldLink "LinkHarbour$Reaching" 15 "LinkHarbour$Reaching" "foundCount" "I" ∈ lw_g := mG 367 (by decide +kernel) rfl
theorem w_368 : Cond.fieldLink "LinkHarbour$Reaching" 19 "LinkHarbour$Reaching" "sectionSet" "I" ∈ lw_g := mG 368 (by decide +kernel) rfl
theorem w_369 : Cond.fieldLink "LinkHarbour$Reaching" 22 "LinkHarbour$Reaching" "commonSet" "I" ∈ lw_g := mG 369 (by decide +kernel) rfl
theorem w_370 : Cond.fieldLink "LinkHarbour$Reaching" 25 "LinkHarbour$Reaching" "imports" "I" ∈ lw_g := mG 370 (by decide +kernel) rfl
theorem w_371 : Cond.fieldLink "LinkHarbour$Reaching" 28 "LinkHarbour$Reaching" "references" "[I" ∈ lw_g := mG 371 (by decide +kernel) rfl
theorem w_372 : Cond.laysFinal "LinkHarbour$Reaching" "LinkHarbour$Reaching" "sections" "LLinkHarbour$SectionTable;" ∈ lw_g := mG 372 (by decide +kernel) rfl
theorem w_374 : Cond.laysFinal "LinkHarbour$Reaching" "LinkHarbour$Reaching" "taking" "LLinkHarbour$Taking;" ∈ lw_g := mG 374 (by decide +kernel) rfl
theorem w_376 : Cond.laysFinal "LinkHarbour$Reaching" "LinkHarbour$Reaching" "settling" "LLinkHarbour$Settling;" ∈ lw_g := mG 376 (by decide +kernel) rfl
theorem w_378 : Cond.laysFinal "LinkHarbour$Reaching" "LinkHarbour$Reaching" "found" "[I" ∈ lw_g := mG 378 (by decide +kernel) rfl
theorem w_380 : Cond.lays "LinkHarbour$Reaching" "LinkHarbour$Reaching" "foundCount" "I" ∈ lw_g := mG 380 (by decide +kernel) rfl
theorem w_382 : Cond.lays "LinkHarbour$Reaching" "LinkHarbour$Reaching" "sectionSet" "I" ∈ lw_g := mG 382 (by decide +kernel) rfl
theorem w_384 : Cond.lays "LinkHarbour$Reaching" "LinkHarbour$Reaching" "commonSet" "I" ∈ lw_g := mG 384 (by decide +kernel) rfl
theorem w_386 : Cond.lays "LinkHarbour$Reaching" "LinkHarbour$Reaching" "imports" "I" ∈ lw_g := mG 386 (by decide +kernel) rfl
theorem w_388 : Cond.laysFinal "LinkHarbour$Reaching" "LinkHarbour$Reaching" "references" "[I" ∈ lw_g := mG 388 (by decide +kernel) rfl
theorem w_391 : Cond.classLink "LinkHarbour$Link" 60 "LinkHarbour$Layout" ∈ lw_g := mG 391 (by decide +kernel) rfl
theorem w_392 : Cond.instantiable "LinkHarbour$Layout" 13 ∈ lw_g := mG 392 (by decide +kernel) rfl
theorem w_393 : Cond.methodLink "LinkHarbour$Link" 62 ⟨"LinkHarbour$Layout", "<init>", "(LLinkHarbour$SectionTable;LLinkHarbour$Taking;LLinkHarbour$Settling;LLinkHarbour$Reaching;)V"⟩ ∈ lw_g := mG 393 (by decide +kernel) rfl
theorem w_394 : Cond.instanceMethod ⟨"LinkHarbour$Layout", "<init>", "(LLinkHarbour$SectionTable;LLinkHarbour$Taking;LLinkHarbour$Settling;LLinkHarbour$Reaching;)V"⟩ ∈ lw_g := mG 394 (by decide +kernel) rfl
theorem w_396 : Cond.methodLink "LinkHarbour$Layout" 3 ⟨"java/lang/Object", "<init>", "()V"⟩ ∈ lw_g := mG 396 (by decide +kernel) rfl
theorem w_397 : Cond.fieldLink "LinkHarbour$Layout" 40 "LinkHarbour$Layout" "sections" "LLinkHarbour$SectionTable;" ∈ lw_g := mG 397 (by decide +kernel) rfl
theorem w_398 : Cond.fieldLink "LinkHarbour$Layout" 44 "LinkHarbour$Layout" "taking" "LLinkHarbour$Taking;" ∈ lw_g := mG 398 (by decide +kernel) rfl
theorem w_399 : Cond.fieldLink "LinkHarbour$Layout" 48 "LinkHarbour$Layout" "settling" "LLinkHarbour$Settling;" ∈ lw_g := mG 399 (by decide +kernel) rfl
theorem w_400 : Cond.fieldLink "LinkHarbour$Layout" 52 "LinkHarbour$Layout" "reaching" "LLinkHarbour$Reaching;" ∈ lw_g := mG 400 (by decide +kernel) rfl
theorem w_401 : Cond.fieldLink "LinkHarbour$Layout" 9 "LinkHarbour$Layout" "order" "[I" ∈ lw_g := mG 401 (by decide +kernel) rfl
theorem w_402 : Cond.fieldLink "LinkHarbour$Layout" 15 "LinkHarbour$Layout" "laid" "I" ∈ lw_g := mG 402 (by decide +kernel) rfl
theorem w_403 : Cond.fieldLink "LinkHarbour$Layout" 19 "LinkHarbour$Layout" "addressOf" "[I" ∈ lw_g := mG 403 (by decide +kernel) rfl
theorem w_404 : Cond.fieldLink "LinkHarbour$Layout" 22 "LinkHarbour$Layout" "wordsOf" "[I" ∈ lw_g := mG 404 (by decide +kernel) rfl
theorem w_405 : Cond.fieldLink "LinkHarbour$Layout" 25 "LinkHarbour$Layout" "longsOf" "[I" ∈ lw_g := mG 405 (by decide +kernel) rfl
theorem w_406 : Cond.fieldLink "LinkHarbour$Layout" 28 "LinkHarbour$Layout" "width" "[I" ∈ lw_g := mG 406 (by decide +kernel) rfl
theorem w_407 : Cond.fieldLink "LinkHarbour$Layout" 31 "LinkHarbour$Layout" "addressOfName" "[I" ∈ lw_g := mG 407 (by decide +kernel) rfl
theorem w_408 : Cond.fieldLink "LinkHarbour$Layout" 34 "LinkHarbour$Layout" "size" "I" ∈ lw_g := mG 408 (by decide +kernel) rfl
theorem w_409 : Cond.fieldLink "LinkHarbour$Layout" 37 "LinkHarbour$Layout" "used" "I" ∈ lw_g := mG 409 (by decide +kernel) rfl
theorem w_410 : Cond.laysFinal "LinkHarbour$Layout" "LinkHarbour$Layout" "sections" "LLinkHarbour$SectionTable;" ∈ lw_g := mG 410 (by decide +kernel) rfl
theorem w_412 : Cond.laysFinal "LinkHarbour$Layout" "LinkHarbour$Layout" "taking" "LLinkHarbour$Taking;" ∈ lw_g := mG 412 (by decide +kernel) rfl
theorem w_414 : Cond.laysFinal "LinkHarbour$Layout" "LinkHarbour$Layout" "settling" "LLinkHarbour$Settling;" ∈ lw_g := mG 414 (by decide +kernel) rfl
theorem w_416 : Cond.laysFinal "LinkHarbour$Layout" "LinkHarbour$Layout" "reaching" "LLinkHarbour$Reaching;" ∈ lw_g := mG 416 (by decide +kernel) rfl
theorem w_418 : Cond.laysFinal "LinkHarbour$Layout" "LinkHarbour$Layout" "order" "[I" ∈ lw_g := mG 418 (by decide +kernel) rfl
theorem w_420 : Cond.lays "LinkHarbour$Layout" "LinkHarbour$Layout" "laid" "I" ∈ lw_g := mG 420 (by decide +kernel) rfl
theorem w_422 : Cond.laysFinal "LinkHarbour$Layout" "LinkHarbour$Layout" "addressOf" "[I" ∈ lw_g := mG 422 (by decide +kernel) rfl
theorem w_424 : Cond.laysFinal "LinkHarbour$Layout" "LinkHarbour$Layout" "wordsOf" "[I" ∈ lw_g := mG 424 (by decide +kernel) rfl
theorem w_426 : Cond.laysFinal "LinkHarbour$Layout" "LinkHarbour$Layout" "longsOf" "[I" ∈ lw_g := mG 426 (by decide +kernel) rfl
theorem w_428 : Cond.laysFinal "LinkHarbour$Layout" "LinkHarbour$Layout" "width" "[I" ∈ lw_g := mG 428 (by decide +kernel) rfl
theorem w_430 : Cond.laysFinal "LinkHarbour$Layout" "LinkHarbour$Layout" "addressOfName" "[I" ∈ lw_g := mG 430 (by decide +kernel) rfl
theorem w_432 : Cond.lays "LinkHarbour$Layout" "LinkHarbour$Layout" "size" "I" ∈ lw_g := mG 432 (by decide +kernel) rfl
theorem w_434 : Cond.lays "LinkHarbour$Layout" "LinkHarbour$Layout" "used" "I" ∈ lw_g := mG 434 (by decide +kernel) rfl
theorem w_437 : Cond.fieldLink "LinkHarbour$Link" 29 "LinkHarbour$Link" "sections" "LLinkHarbour$SectionTable;" ∈ lw_g := mG 437 (by decide +kernel) rfl
theorem w_438 : Cond.fieldLink "LinkHarbour$Link" 38 "LinkHarbour$Link" "taking" "LLinkHarbour$Taking;" ∈ lw_g := mG 438 (by decide +kernel) rfl
theorem w_440 : Cond.fieldLink "LinkHarbour$Link" 47 "LinkHarbour$Link" "settling" "LLinkHarbour$Settling;" ∈ lw_g := mG 440 (by decide +kernel) rfl
theorem w_443 : Cond.fieldLink "LinkHarbour$Link" 56 "LinkHarbour$Link" "reaching" "LLinkHarbour$Reaching;" ∈ lw_g := mG 443 (by decide +kernel) rfl
theorem w_446 : Cond.fieldLink "LinkHarbour$Link" 65 "LinkHarbour$Link" "layout" "LLinkHarbour$Layout;" ∈ lw_g := mG 446 (by decide +kernel) rfl
theorem w_449 : Cond.fieldLink "LinkHarbour$Link" 12 "LinkHarbour$Link" "faults" "LLinkHarbour$FaultList;" ∈ lw_g := mG 449 (by decide +kernel) rfl
theorem w_451 : Cond.fieldLink "LinkHarbour$Link" 18 "LinkHarbour$Link" "isDone" "Z" ∈ lw_g := mG 451 (by decide +kernel) rfl
theorem w_452 : Cond.fieldLink "LinkHarbour$Link" 22 "LinkHarbour$Link" "isShared" "Z" ∈ lw_g := mG 452 (by decide +kernel) rfl
theorem w_453 : Cond.fieldLink "LinkHarbour$Link" 25 "LinkHarbour$Link" "entry" "I" ∈ lw_g := mG 453 (by decide +kernel) rfl
theorem w_454 : Cond.laysFinal "LinkHarbour$Link" "LinkHarbour$Link" "sections" "LLinkHarbour$SectionTable;" ∈ lw_g := mG 454 (by decide +kernel) rfl
theorem w_456 : Cond.laysFinal "LinkHarbour$Link" "LinkHarbour$Link" "taking" "LLinkHarbour$Taking;" ∈ lw_g := mG 456 (by decide +kernel) rfl
theorem w_458 : Cond.laysFinal "LinkHarbour$Link" "LinkHarbour$Link" "settling" "LLinkHarbour$Settling;" ∈ lw_g := mG 458 (by decide +kernel) rfl
theorem w_460 : Cond.laysFinal "LinkHarbour$Link" "LinkHarbour$Link" "reaching" "LLinkHarbour$Reaching;" ∈ lw_g := mG 460 (by decide +kernel) rfl
theorem w_462 : Cond.laysFinal "LinkHarbour$Link" "LinkHarbour$Link" "layout" "LLinkHarbour$Layout;" ∈ lw_g := mG 462 (by decide +kernel) rfl
theorem w_464 : Cond.laysFinal "LinkHarbour$Link" "LinkHarbour$Link" "faults" "LLinkHarbour$FaultList;" ∈ lw_g := mG 464 (by decide +kernel) rfl
theorem w_466 : Cond.lays "LinkHarbour$Link" "LinkHarbour$Link" "isDone" "Z" ∈ lw_g := mG 466 (by decide +kernel) rfl
theorem w_468 : Cond.lays "LinkHarbour$Link" "LinkHarbour$Link" "isShared" "Z" ∈ lw_g := mG 468 (by decide +kernel) rfl
theorem w_470 : Cond.lays "LinkHarbour$Link" "LinkHarbour$Link" "entry" "I" ∈ lw_g := mG 470 (by decide +kernel) rfl
theorem w_473 : Cond.fieldLink "LinkHarbour" 12 "LinkHarbour" "objects" "LLinkHarbour$ObjectTable;" ∈ lw_g := mG 473 (by decide +kernel) rfl
theorem w_474 : Cond.fieldLink "LinkHarbour" 19 "LinkHarbour" "sections" "LLinkHarbour$SectionTable;" ∈ lw_g := mG 474 (by decide +kernel) rfl
theorem w_475 : Cond.fieldLink "LinkHarbour" 26 "LinkHarbour" "items" "LLinkHarbour$ItemRow;" ∈ lw_g := mG 475 (by decide +kernel) rfl
theorem w_476 : Cond.fieldLink "LinkHarbour" 33 "LinkHarbour" "libraries" "LLinkHarbour$LibraryTable;" ∈ lw_g := mG 476 (by decide +kernel) rfl
theorem w_477 : Cond.fieldLink "LinkHarbour" 40 "LinkHarbour" "image" "LLinkHarbour$Image;" ∈ lw_g := mG 477 (by decide +kernel) rfl
theorem w_478 : Cond.fieldLink "LinkHarbour" 56 "LinkHarbour" "latest" "LLinkHarbour$Link;" ∈ lw_g := mG 478 (by decide +kernel) rfl
theorem w_479 : Cond.fieldLink "LinkHarbour" 60 "LinkHarbour" "trial" "LLinkHarbour$Link;" ∈ lw_g := mG 479 (by decide +kernel) rfl
theorem w_480 : Cond.fieldLink "LinkHarbour" 44 "LinkHarbour" "reach" "I" ∈ lw_g := mG 480 (by decide +kernel) rfl
theorem w_481 : Cond.fieldLink "LinkHarbour" 48 "LinkHarbour" "limit" "I" ∈ lw_g := mG 481 (by decide +kernel) rfl
theorem w_482 : Cond.laysFinal "LinkHarbour" "LinkHarbour" "objects" "LLinkHarbour$ObjectTable;" ∈ lw_g := mG 482 (by decide +kernel) rfl
theorem w_484 : Cond.laysFinal "LinkHarbour" "LinkHarbour" "sections" "LLinkHarbour$SectionTable;" ∈ lw_g := mG 484 (by decide +kernel) rfl
theorem w_486 : Cond.laysFinal "LinkHarbour" "LinkHarbour" "items" "LLinkHarbour$ItemRow;" ∈ lw_g := mG 486 (by decide +kernel) rfl
theorem w_488 : Cond.laysFinal "LinkHarbour" "LinkHarbour" "libraries" "LLinkHarbour$LibraryTable;" ∈ lw_g := mG 488 (by decide +kernel) rfl
theorem w_490 : Cond.laysFinal "LinkHarbour" "LinkHarbour" "image" "LLinkHarbour$Image;" ∈ lw_g := mG 490 (by decide +kernel) rfl
theorem w_492 : Cond.laysFinal "LinkHarbour" "LinkHarbour" "latest" "LLinkHarbour$Link;" ∈ lw_g := mG 492 (by decide +kernel) rfl
theorem w_494 : Cond.laysFinal "LinkHarbour" "LinkHarbour" "trial" "LLinkHarbour$Link;" ∈ lw_g := mG 494 (by decide +kernel) rfl
theorem w_496 : Cond.lays "LinkHarbour" "LinkHarbour" "reach" "I" ∈ lw_g := mG 496 (by decide +kernel) rfl
theorem w_498 : Cond.lays "LinkHarbour" "LinkHarbour" "limit" "I" ∈ lw_g := mG 498 (by decide +kernel) rfl
theorem w_505 : Cond.methodLink "LinkHarbour" 173 ⟨"LinkHarbour$ItemRow", "removeAll", "()I"⟩ ∈ lw_g := mG 505 (by decide +kernel) rfl
theorem w_506 : Cond.instanceMethod ⟨"LinkHarbour$ItemRow", "removeAll", "()I"⟩ ∈ lw_g := mG 506 (by decide +kernel) rfl
theorem w_507 : Cond.selects "LinkHarbour$ItemRow" ⟨"LinkHarbour$ItemRow", "removeAll", "()I"⟩ ⟨"LinkHarbour$ItemRow", "removeAll", "()I"⟩ ∈ lw_g := mG 507 (by decide +kernel) rfl
theorem w_513 : Cond.methodLink "LinkHarbour" 269 ⟨"LinkHarbour$Layout", "size", "()I"⟩ ∈ lw_g := mG 513 (by decide +kernel) rfl
theorem w_514 : Cond.instanceMethod ⟨"LinkHarbour$Layout", "size", "()I"⟩ ∈ lw_g := mG 514 (by decide +kernel) rfl
theorem w_515 : Cond.selects "LinkHarbour$Layout" ⟨"LinkHarbour$Layout", "size", "()I"⟩ ⟨"LinkHarbour$Layout", "size", "()I"⟩ ∈ lw_g := mG 515 (by decide +kernel) rfl
theorem w_517 : Cond.methodLink "LinkHarbour" 375 ⟨"LinkHarbour$Layout", "used", "()I"⟩ ∈ lw_g := mG 517 (by decide +kernel) rfl
theorem w_518 : Cond.instanceMethod ⟨"LinkHarbour$Layout", "used", "()I"⟩ ∈ lw_g := mG 518 (by decide +kernel) rfl
theorem w_519 : Cond.selects "LinkHarbour$Layout" ⟨"LinkHarbour$Layout", "used", "()I"⟩ ⟨"LinkHarbour$Layout", "used", "()I"⟩ ∈ lw_g := mG 519 (by decide +kernel) rfl
theorem w_525 : Cond.constantLong "LinkHarbour" 391 (58133) ∈ lw_g := mG 525 (by decide +kernel) rfl
theorem w_526 : Cond.methodLink "LinkHarbour" 393 ⟨"LinkHarbour", "many", "(I)I"⟩ ∈ lw_g := mG 526 (by decide +kernel) rfl
theorem w_527 : Cond.instanceMethod ⟨"LinkHarbour", "many", "(I)I"⟩ ∈ lw_g := mG 527 (by decide +kernel) rfl
theorem w_528 : Cond.selects "LinkHarbour" ⟨"LinkHarbour", "many", "(I)I"⟩ ⟨"LinkHarbour", "many", "(I)I"⟩ ∈ lw_g := mG 528 (by decide +kernel) rfl
theorem w_530 : Cond.methodLink "LinkHarbour" 352 ⟨"LinkHarbour$ObjectTable", "count", "()I"⟩ ∈ lw_g := mG 530 (by decide +kernel) rfl
theorem w_531 : Cond.instanceMethod ⟨"LinkHarbour$ObjectTable", "count", "()I"⟩ ∈ lw_g := mG 531 (by decide +kernel) rfl
theorem w_532 : Cond.selects "LinkHarbour$ObjectTable" ⟨"LinkHarbour$ObjectTable", "count", "()I"⟩ ⟨"LinkHarbour$ObjectTable", "count", "()I"⟩ ∈ lw_g := mG 532 (by decide +kernel) rfl
theorem w_534 : Cond.methodLink "LinkHarbour" 353 ⟨"LinkHarbour$SectionTable", "count", "()I"⟩ ∈ lw_g := mG 534 (by decide +kernel) rfl
theorem w_535 : Cond.instanceMethod ⟨"LinkHarbour$SectionTable", "count", "()I"⟩ ∈ lw_g := mG 535 (by decide +kernel) rfl
theorem w_536 : Cond.selects "LinkHarbour$SectionTable" ⟨"LinkHarbour$SectionTable", "count", "()I"⟩ ⟨"LinkHarbour$SectionTable", "count", "()I"⟩ ∈ lw_g := mG 536 (by decide +kernel) rfl
theorem w_538 : Cond.methodLink "LinkHarbour" 354 ⟨"LinkHarbour$ItemRow", "count", "()I"⟩ ∈ lw_g := mG 538 (by decide +kernel) rfl
theorem w_539 : Cond.instanceMethod ⟨"LinkHarbour$ItemRow", "count", "()I"⟩ ∈ lw_g := mG 539 (by decide +kernel) rfl
theorem w_540 : Cond.selects "LinkHarbour$ItemRow" ⟨"LinkHarbour$ItemRow", "count", "()I"⟩ ⟨"LinkHarbour$ItemRow", "count", "()I"⟩ ∈ lw_g := mG 540 (by decide +kernel) rfl
theorem w_542 : Cond.methodLink "LinkHarbour" 277 ⟨"LinkHarbour$LibraryTable", "count", "()I"⟩ ∈ lw_g := mG 542 (by decide +kernel) rfl
theorem w_543 : Cond.instanceMethod ⟨"LinkHarbour$LibraryTable", "count", "()I"⟩ ∈ lw_g := mG 543 (by decide +kernel) rfl
theorem w_544 : Cond.selects "LinkHarbour$LibraryTable" ⟨"LinkHarbour$LibraryTable", "count", "()I"⟩ ⟨"LinkHarbour$LibraryTable", "count", "()I"⟩ ∈ lw_g := mG 544 (by decide +kernel) rfl
theorem w_546 : Cond.methodLink "LinkHarbour" 355 ⟨"LinkHarbour$LibraryTable", "countLoaded", "()I"⟩ ∈ lw_g := mG 546 (by decide +kernel) rfl
theorem w_547 : Cond.instanceMethod ⟨"LinkHarbour$LibraryTable", "countLoaded", "()I"⟩ ∈ lw_g := mG 547 (by decide +kernel) rfl
theorem w_548 : Cond.selects "LinkHarbour$LibraryTable" ⟨"LinkHarbour$LibraryTable", "countLoaded", "()I"⟩ ⟨"LinkHarbour$LibraryTable", "countLoaded", "()I"⟩ ∈ lw_g := mG 548 (by decide +kernel) rfl
theorem w_550 : Cond.methodLink "LinkHarbour$LibraryTable" 95 ⟨"LinkHarbour$LibraryTable", "loaded", "()I"⟩ ∈ lw_g := mG 550 (by decide +kernel) rfl
theorem w_552 : Cond.instanceMethod ⟨"LinkHarbour$LibraryTable", "loaded", "()I"⟩ ∈ lw_g := mG 552 (by decide +kernel) rfl
theorem w_554 : Cond.methodLink "LinkHarbour$LibraryTable" 139 ⟨"LinkHarbour$LibraryTable", "isLoaded", "(I)Z"⟩ ∈ lw_g := mG 554 (by decide +kernel) rfl
theorem w_555 : Cond.instanceMethod ⟨"LinkHarbour$LibraryTable", "isLoaded", "(I)Z"⟩ ∈ lw_g := mG 555 (by decide +kernel) rfl
theorem w_556 : Cond.selects "LinkHarbour$LibraryTable" ⟨"LinkHarbour$LibraryTable", "isLoaded", "(I)Z"⟩ ⟨"LinkHarbour$LibraryTable", "isLoaded", "(I)Z"⟩ ∈ lw_g := mG 556 (by decide +kernel) rfl
theorem w_558 : Cond.methodLink "LinkHarbour$LibraryTable" 65 ⟨"LinkHarbour$LibraryTable", "base", "(I)I"⟩ ∈ lw_g := mG 558 (by decide +kernel) rfl
theorem w_559 : Cond.instanceMethod ⟨"LinkHarbour$LibraryTable", "base", "(I)I"⟩ ∈ lw_g := mG 559 (by decide +kernel) rfl
theorem w_560 : Cond.selects "LinkHarbour$LibraryTable" ⟨"LinkHarbour$LibraryTable", "base", "(I)I"⟩ ⟨"LinkHarbour$LibraryTable", "base", "(I)I"⟩ ∈ lw_g := mG 560 (by decide +kernel) rfl
theorem w_562 : Cond.methodLink "LinkHarbour$LibraryTable" 61 ⟨"LinkHarbour$LibraryTable", "has", "(I)Z"⟩ ∈ lw_g := mG 562 (by decide +kernel) rfl
theorem w_563 : Cond.instanceMethod ⟨"LinkHarbour$LibraryTable", "has", "(I)Z"⟩ ∈ lw_g := mG 563 (by decide +kernel) rfl
theorem w_564 : Cond.selects "LinkHarbour$LibraryTable" ⟨"LinkHarbour$LibraryTable", "has", "(I)Z"⟩ ⟨"LinkHarbour$LibraryTable", "has", "(I)Z"⟩ ∈ lw_g := mG 564 (by decide +kernel) rfl
theorem w_566 : Cond.methodLink "LinkHarbour$LibraryTable" 99 ⟨"java/lang/Integer", "bitCount", "(I)I"⟩ ∈ lw_g := mG 566 (by decide +kernel) rfl
theorem w_567 : Cond.static ⟨"java/lang/Integer", "bitCount", "(I)I"⟩ ∈ lw_g := mG 567 (by decide +kernel) rfl
theorem w_569 : Cond.constant "java/lang/Integer" 265 (1431655765) ∈ lw_g := mG 569 (by decide +kernel) rfl
theorem w_570 : Cond.constant "java/lang/Integer" 266 (858993459) ∈ lw_g := mG 570 (by decide +kernel) rfl
theorem w_571 : Cond.constant "java/lang/Integer" 267 (252645135) ∈ lw_g := mG 571 (by decide +kernel) rfl
theorem w_572 : Cond.methodLink "LinkHarbour" 358 ⟨"LinkHarbour$LibraryTable", "countGlobal", "()I"⟩ ∈ lw_g := mG 572 (by decide +kernel) rfl
theorem w_573 : Cond.instanceMethod ⟨"LinkHarbour$LibraryTable", "countGlobal", "()I"⟩ ∈ lw_g := mG 573 (by decide +kernel) rfl
theorem w_574 : Cond.selects "LinkHarbour$LibraryTable" ⟨"LinkHarbour$LibraryTable", "countGlobal", "()I"⟩ ⟨"LinkHarbour$LibraryTable", "countGlobal", "()I"⟩ ∈ lw_g := mG 574 (by decide +kernel) rfl
theorem w_576 : Cond.methodLink "LinkHarbour" 361 ⟨"LinkHarbour$LibraryTable", "countBindings", "()I"⟩ ∈ lw_g := mG 576 (by decide +kernel) rfl
theorem w_577 : Cond.instanceMethod ⟨"LinkHarbour$LibraryTable", "countBindings", "()I"⟩ ∈ lw_g := mG 577 (by decide +kernel) rfl
theorem w_578 : Cond.selects "LinkHarbour$LibraryTable" ⟨"LinkHarbour$LibraryTable", "countBindings", "()I"⟩ ⟨"LinkHarbour$LibraryTable", "countBindings", "()I"⟩ ∈ lw_g := mG 578 (by decide +kernel) rfl
theorem w_580 : Cond.methodLink "LinkHarbour" 364 ⟨"LinkHarbour$Taking", "count", "()I"⟩ ∈ lw_g := mG 580 (by decide +kernel) rfl
theorem w_581 : Cond.instanceMethod ⟨"LinkHarbour$Taking", "count", "()I"⟩ ∈ lw_g := mG 581 (by decide +kernel) rfl
theorem w_582 : Cond.selects "LinkHarbour$Taking" ⟨"LinkHarbour$Taking", "count", "()I"⟩ ⟨"LinkHarbour$Taking", "count", "()I"⟩ ∈ lw_g := mG 582 (by decide +kernel) rfl
theorem w_584 : Cond.methodLink "LinkHarbour" 365 ⟨"LinkHarbour$Reaching", "countSections", "()I"⟩ ∈ lw_g := mG 584 (by decide +kernel) rfl
theorem w_585 : Cond.instanceMethod ⟨"LinkHarbour$Reaching", "countSections", "()I"⟩ ∈ lw_g := mG 585 (by decide +kernel) rfl
theorem w_586 : Cond.selects "LinkHarbour$Reaching" ⟨"LinkHarbour$Reaching", "countSections", "()I"⟩ ⟨"LinkHarbour$Reaching", "countSections", "()I"⟩ ∈ lw_g := mG 586 (by decide +kernel) rfl
theorem w_588 : Cond.methodLink "LinkHarbour" 210 ⟨"LinkHarbour$FaultList", "count", "()I"⟩ ∈ lw_g := mG 588 (by decide +kernel) rfl
theorem w_589 : Cond.instanceMethod ⟨"LinkHarbour$FaultList", "count", "()I"⟩ ∈ lw_g := mG 589 (by decide +kernel) rfl
theorem w_590 : Cond.selects "LinkHarbour$FaultList" ⟨"LinkHarbour$FaultList", "count", "()I"⟩ ⟨"LinkHarbour$FaultList", "count", "()I"⟩ ∈ lw_g := mG 590 (by decide +kernel) rfl
theorem w_592 : Cond.methodLink "LinkHarbour" 368 ⟨"LinkHarbour$Layout", "countLongs", "()I"⟩ ∈ lw_g := mG 592 (by decide +kernel) rfl
theorem w_593 : Cond.instanceMethod ⟨"LinkHarbour$Layout", "countLongs", "()I"⟩ ∈ lw_g := mG 593 (by decide +kernel) rfl
theorem w_594 : Cond.selects "LinkHarbour$Layout" ⟨"LinkHarbour$Layout", "countLongs", "()I"⟩ ⟨"LinkHarbour$Layout", "countLongs", "()I"⟩ ∈ lw_g := mG 594 (by decide +kernel) rfl
theorem w_596 : Cond.methodLink "LinkHarbour$Layout" 66 ⟨"LinkHarbour$Layout", "longsOf", "(I)I"⟩ ∈ lw_g := mG 596 (by decide +kernel) rfl
theorem w_597 : Cond.instanceMethod ⟨"LinkHarbour$Layout", "longsOf", "(I)I"⟩ ∈ lw_g := mG 597 (by decide +kernel) rfl
theorem w_598 : Cond.selects "LinkHarbour$Layout" ⟨"LinkHarbour$Layout", "longsOf", "(I)I"⟩ ⟨"LinkHarbour$Layout", "longsOf", "(I)I"⟩ ∈ lw_g := mG 598 (by decide +kernel) rfl
theorem w_600 : Cond.methodLink "LinkHarbour$Layout" 56 ⟨"LinkHarbour$Reaching", "hasSection", "(I)Z"⟩ ∈ lw_g := mG 600 (by decide +kernel) rfl
theorem w_601 : Cond.instanceMethod ⟨"LinkHarbour$Reaching", "hasSection", "(I)Z"⟩ ∈ lw_g := mG 601 (by decide +kernel) rfl
theorem w_602 : Cond.selects "LinkHarbour$Reaching" ⟨"LinkHarbour$Reaching", "hasSection", "(I)Z"⟩ ⟨"LinkHarbour$Reaching", "hasSection", "(I)Z"⟩ ∈ lw_g := mG 602 (by decide +kernel) rfl
theorem w_605 : Cond.static ⟨"LinkHarbour", "isIn", "(II)Z"⟩ ∈ lw_g := mG 605 (by decide +kernel) rfl
theorem w_608 : Cond.static ⟨"LinkHarbour", "hasBit", "(II)Z"⟩ ∈ lw_g := mG 608 (by decide +kernel) rfl
theorem w_611 : Cond.methodLink "LinkHarbour" 371 ⟨"LinkHarbour$Reaching", "imports", "()I"⟩ ∈ lw_g := mG 611 (by decide +kernel) rfl
theorem w_612 : Cond.instanceMethod ⟨"LinkHarbour$Reaching", "imports", "()I"⟩ ∈ lw_g := mG 612 (by decide +kernel) rfl
theorem w_613 : Cond.selects "LinkHarbour$Reaching" ⟨"LinkHarbour$Reaching", "imports", "()I"⟩ ⟨"LinkHarbour$Reaching", "imports", "()I"⟩ ∈ lw_g := mG 613 (by decide +kernel) rfl
theorem w_615 : Cond.methodLink "LinkHarbour" 155 ⟨"java/lang/Integer", "bitCount", "(I)I"⟩ ∈ lw_g := mG 615 (by decide +kernel) rfl
theorem w_616 : Cond.classLink "LinkHarbour" 90 "java/lang/IllegalArgumentException" ∈ lw_g := mG 616 (by decide +kernel) rfl
theorem w_684 : Cond.methodLink "LinkHarbour" 396 ⟨"LinkHarbour", "mix", "(JJ)J"⟩ ∈ lw_g := mG 684 (by decide +kernel) rfl
theorem w_685 : Cond.static ⟨"LinkHarbour", "mix", "(JJ)J"⟩ ∈ lw_g := mG 685 (by decide +kernel) rfl
theorem w_687 : Cond.constantLong "LinkHarbour" 451 (31) ∈ lw_g := mG 687 (by decide +kernel) rfl
theorem w_688 : Cond.methodLink "LinkHarbour" 400 ⟨"LinkHarbour", "mixObjects", "(J)J"⟩ ∈ lw_g := mG 688 (by decide +kernel) rfl
theorem w_690 : Cond.instanceMethod ⟨"LinkHarbour", "mixObjects", "(J)J"⟩ ∈ lw_g := mG 690 (by decide +kernel) rfl
theorem w_692 : Cond.methodLink "LinkHarbour" 426 ⟨"LinkHarbour", "ofObject", "(II)I"⟩ ∈ lw_g := mG 692 (by decide +kernel) rfl
theorem w_693 : Cond.instanceMethod ⟨"LinkHarbour", "ofObject", "(II)I"⟩ ∈ lw_g := mG 693 (by decide +kernel) rfl
theorem w_694 : Cond.selects "LinkHarbour" ⟨"LinkHarbour", "ofObject", "(II)I"⟩ ⟨"LinkHarbour", "ofObject", "(II)I"⟩ ∈ lw_g := mG 694 (by decide +kernel) rfl
theorem w_696 : Cond.methodLink "LinkHarbour" 78 ⟨"LinkHarbour$ObjectTable", "has", "(I)Z"⟩ ∈ lw_g := mG 696 (by decide +kernel) rfl
theorem w_697 : Cond.instanceMethod ⟨"LinkHarbour$ObjectTable", "has", "(I)Z"⟩ ∈ lw_g := mG 697 (by decide +kernel) rfl
theorem w_698 : Cond.selects "LinkHarbour$ObjectTable" ⟨"LinkHarbour$ObjectTable", "has", "(I)Z"⟩ ⟨"LinkHarbour$ObjectTable", "has", "(I)Z"⟩ ∈ lw_g := mG 698 (by decide +kernel) rfl
theorem w_700 : Cond.classLink "LinkHarbour" 82 "java/lang/IndexOutOfBoundsException" ∈ lw_g := mG 700 (by decide +kernel) rfl
theorem w_716 : Cond.methodLink "LinkHarbour" 176 ⟨"LinkHarbour$SectionTable", "countOf", "(I)I"⟩ ∈ lw_g := mG 716 (by decide +kernel) rfl
theorem w_717 : Cond.instanceMethod ⟨"LinkHarbour$SectionTable", "countOf", "(I)I"⟩ ∈ lw_g := mG 717 (by decide +kernel) rfl
theorem w_718 : Cond.selects "LinkHarbour$SectionTable" ⟨"LinkHarbour$SectionTable", "countOf", "(I)I"⟩ ⟨"LinkHarbour$SectionTable", "countOf", "(I)I"⟩ ∈ lw_g := mG 718 (by decide +kernel) rfl
theorem w_720 : Cond.methodLink "LinkHarbour" 152 ⟨"LinkHarbour$ObjectTable", "defined", "(I)I"⟩ ∈ lw_g := mG 720 (by decide +kernel) rfl
theorem w_721 : Cond.instanceMethod ⟨"LinkHarbour$ObjectTable", "defined", "(I)I"⟩ ∈ lw_g := mG 721 (by decide +kernel) rfl
theorem w_722 : Cond.selects "LinkHarbour$ObjectTable" ⟨"LinkHarbour$ObjectTable", "defined", "(I)I"⟩ ⟨"LinkHarbour$ObjectTable", "defined", "(I)I"⟩ ∈ lw_g := mG 722 (by decide +kernel) rfl
theorem w_724 : Cond.methodLink "LinkHarbour" 179 ⟨"LinkHarbour$ItemRow", "itemOf", "(I)I"⟩ ∈ lw_g := mG 724 (by decide +kernel) rfl
theorem w_725 : Cond.instanceMethod ⟨"LinkHarbour$ItemRow", "itemOf", "(I)I"⟩ ∈ lw_g := mG 725 (by decide +kernel) rfl
theorem w_726 : Cond.selects "LinkHarbour$ItemRow" ⟨"LinkHarbour$ItemRow", "itemOf", "(I)I"⟩ ⟨"LinkHarbour$ItemRow", "itemOf", "(I)I"⟩ ∈ lw_g := mG 726 (by decide +kernel) rfl
theorem w_729 : Cond.methodLink "LinkHarbour" 186 ⟨"LinkHarbour$Taking", "placeOf", "(I)I"⟩ ∈ lw_g := mG 729 (by decide +kernel) rfl
theorem w_730 : Cond.instanceMethod ⟨"LinkHarbour$Taking", "placeOf", "(I)I"⟩ ∈ lw_g := mG 730 (by decide +kernel) rfl
theorem w_731 : Cond.selects "LinkHarbour$Taking" ⟨"LinkHarbour$Taking", "placeOf", "(I)I"⟩ ⟨"LinkHarbour$Taking", "placeOf", "(I)I"⟩ ∈ lw_g := mG 731 (by decide +kernel) rfl
theorem w_734 : Cond.methodLink "LinkHarbour" 404 ⟨"LinkHarbour", "mixSections", "(J)J"⟩ ∈ lw_g := mG 734 (by decide +kernel) rfl
theorem w_736 : Cond.instanceMethod ⟨"LinkHarbour", "mixSections", "(J)J"⟩ ∈ lw_g := mG 736 (by decide +kernel) rfl
theorem w_738 : Cond.methodLink "LinkHarbour" 429 ⟨"LinkHarbour", "ofSection", "(II)I"⟩ ∈ lw_g := mG 738 (by decide +kernel) rfl
theorem w_739 : Cond.instanceMethod ⟨"LinkHarbour", "ofSection", "(II)I"⟩ ∈ lw_g := mG 739 (by decide +kernel) rfl
theorem w_740 : Cond.selects "LinkHarbour" ⟨"LinkHarbour", "ofSection", "(II)I"⟩ ⟨"LinkHarbour", "ofSection", "(II)I"⟩ ∈ lw_g := mG 740 (by decide +kernel) rfl
theorem w_742 : Cond.methodLink "LinkHarbour" 101 ⟨"LinkHarbour$SectionTable", "has", "(I)Z"⟩ ∈ lw_g := mG 742 (by decide +kernel) rfl
theorem w_743 : Cond.instanceMethod ⟨"LinkHarbour$SectionTable", "has", "(I)Z"⟩ ∈ lw_g := mG 743 (by decide +kernel) rfl
theorem w_744 : Cond.selects "LinkHarbour$SectionTable" ⟨"LinkHarbour$SectionTable", "has", "(I)Z"⟩ ⟨"LinkHarbour$SectionTable", "has", "(I)Z"⟩ ∈ lw_g := mG 744 (by decide +kernel) rfl
theorem w_747 : Cond.methodLink "LinkHarbour" 125 ⟨"LinkHarbour$SectionTable", "objectOf", "(I)I"⟩ ∈ lw_g := mG 747 (by decide +kernel) rfl
theorem w_748 : Cond.instanceMethod ⟨"LinkHarbour$SectionTable", "objectOf", "(I)I"⟩ ∈ lw_g := mG 748 (by decide +kernel) rfl
theorem w_749 : Cond.selects "LinkHarbour$SectionTable" ⟨"LinkHarbour$SectionTable", "objectOf", "(I)I"⟩ ⟨"LinkHarbour$SectionTable", "objectOf", "(I)I"⟩ ∈ lw_g := mG 749 (by decide +kernel) rfl
theorem w_751 : Cond.methodLink "LinkHarbour$SectionTable" 49 ⟨"LinkHarbour$SectionTable", "has", "(I)Z"⟩ ∈ lw_g := mG 751 (by decide +kernel) rfl
theorem w_752 : Cond.methodLink "LinkHarbour" 215 ⟨"LinkHarbour$SectionTable", "align", "(I)I"⟩ ∈ lw_g := mG 752 (by decide +kernel) rfl
theorem w_753 : Cond.instanceMethod ⟨"LinkHarbour$SectionTable", "align", "(I)I"⟩ ∈ lw_g := mG 753 (by decide +kernel) rfl
theorem w_754 : Cond.selects "LinkHarbour$SectionTable" ⟨"LinkHarbour$SectionTable", "align", "(I)I"⟩ ⟨"LinkHarbour$SectionTable", "align", "(I)I"⟩ ∈ lw_g := mG 754 (by decide +kernel) rfl
theorem w_756 : Cond.methodLink "LinkHarbour" 135 ⟨"LinkHarbour$SectionTable", "pieces", "(I)I"⟩ ∈ lw_g := mG 756 (by decide +kernel) rfl
theorem w_757 : Cond.instanceMethod ⟨"LinkHarbour$SectionTable", "pieces", "(I)I"⟩ ∈ lw_g := mG 757 (by decide +kernel) rfl
theorem w_758 : Cond.selects "LinkHarbour$SectionTable" ⟨"LinkHarbour$SectionTable", "pieces", "(I)I"⟩ ⟨"LinkHarbour$SectionTable", "pieces", "(I)I"⟩ ∈ lw_g := mG 758 (by decide +kernel) rfl
theorem w_760 : Cond.methodLink "LinkHarbour" 222 ⟨"LinkHarbour$Reaching", "hasSection", "(I)Z"⟩ ∈ lw_g := mG 760 (by decide +kernel) rfl
theorem w_761 : Cond.methodLink "LinkHarbour" 231 ⟨"LinkHarbour$Layout", "addressOf", "(I)I"⟩ ∈ lw_g := mG 761 (by decide +kernel) rfl
theorem w_762 : Cond.instanceMethod ⟨"LinkHarbour$Layout", "addressOf", "(I)I"⟩ ∈ lw_g := mG 762 (by decide +kernel) rfl
theorem w_763 : Cond.selects "LinkHarbour$Layout" ⟨"LinkHarbour$Layout", "addressOf", "(I)I"⟩ ⟨"LinkHarbour$Layout", "addressOf", "(I)I"⟩ ∈ lw_g := mG 763 (by decide +kernel) rfl
theorem w_765 : Cond.methodLink "LinkHarbour" 236 ⟨"LinkHarbour$Layout", "wordsOf", "(I)I"⟩ ∈ lw_g := mG 765 (by decide +kernel) rfl
theorem w_766 : Cond.instanceMethod ⟨"LinkHarbour$Layout", "wordsOf", "(I)I"⟩ ∈ lw_g := mG 766 (by decide +kernel) rfl
theorem w_767 : Cond.selects "LinkHarbour$Layout" ⟨"LinkHarbour$Layout", "wordsOf", "(I)I"⟩ ⟨"LinkHarbour$Layout", "wordsOf", "(I)I"⟩ ∈ lw_g := mG 767 (by decide +kernel) rfl
theorem w_769 : Cond.methodLink "LinkHarbour" 239 ⟨"LinkHarbour$Layout", "longsOf", "(I)I"⟩ ∈ lw_g := mG 769 (by decide +kernel) rfl
theorem w_771 : Cond.methodLink "LinkHarbour" 407 ⟨"LinkHarbour", "mixNames", "(J)J"⟩ ∈ lw_g := mG 771 (by decide +kernel) rfl
theorem w_773 : Cond.instanceMethod ⟨"LinkHarbour", "mixNames", "(J)J"⟩ ∈ lw_g := mG 773 (by decide +kernel) rfl
theorem w_775 : Cond.methodLink "LinkHarbour" 432 ⟨"LinkHarbour", "ofName", "(II)I"⟩ ∈ lw_g := mG 775 (by decide +kernel) rfl
theorem w_776 : Cond.instanceMethod ⟨"LinkHarbour", "ofName", "(II)I"⟩ ∈ lw_g := mG 776 (by decide +kernel) rfl
theorem w_777 : Cond.selects "LinkHarbour" ⟨"LinkHarbour", "ofName", "(II)I"⟩ ⟨"LinkHarbour", "ofName", "(II)I"⟩ ∈ lw_g := mG 777 (by decide +kernel) rfl
theorem w_779 : Cond.methodLink "LinkHarbour" 115 ⟨"LinkHarbour", "isName", "(I)Z"⟩ ∈ lw_g := mG 779 (by decide +kernel) rfl
theorem w_780 : Cond.static ⟨"LinkHarbour", "isName", "(I)Z"⟩ ∈ lw_g := mG 780 (by decide +kernel) rfl
theorem w_783 : Cond.methodLink "LinkHarbour" 248 ⟨"LinkHarbour$Settling", "kind", "(I)I"⟩ ∈ lw_g := mG 783 (by decide +kernel) rfl
theorem w_784 : Cond.instanceMethod ⟨"LinkHarbour$Settling", "kind", "(I)I"⟩ ∈ lw_g := mG 784 (by decide +kernel) rfl
theorem w_785 : Cond.selects "LinkHarbour$Settling" ⟨"LinkHarbour$Settling", "kind", "(I)I"⟩ ⟨"LinkHarbour$Settling", "kind", "(I)I"⟩ ∈ lw_g := mG 785 (by decide +kernel) rfl
theorem w_788 : Cond.methodLink "LinkHarbour" 252 ⟨"LinkHarbour$Settling", "objectOf", "(I)I"⟩ ∈ lw_g := mG 788 (by decide +kernel) rfl
theorem w_789 : Cond.instanceMethod ⟨"LinkHarbour$Settling", "objectOf", "(I)I"⟩ ∈ lw_g := mG 789 (by decide +kernel) rfl
theorem w_790 : Cond.selects "LinkHarbour$Settling" ⟨"LinkHarbour$Settling", "objectOf", "(I)I"⟩ ⟨"LinkHarbour$Settling", "objectOf", "(I)I"⟩ ∈ lw_g := mG 790 (by decide +kernel) rfl
theorem w_792 : Cond.methodLink "LinkHarbour" 253 ⟨"LinkHarbour$Layout", "addressOfName", "(I)I"⟩ ∈ lw_g := mG 792 (by decide +kernel) rfl
theorem w_793 : Cond.instanceMethod ⟨"LinkHarbour$Layout", "addressOfName", "(I)I"⟩ ∈ lw_g := mG 793 (by decide +kernel) rfl
theorem w_794 : Cond.selects "LinkHarbour$Layout" ⟨"LinkHarbour$Layout", "addressOfName", "(I)I"⟩ ⟨"LinkHarbour$Layout", "addressOfName", "(I)I"⟩ ∈ lw_g := mG 794 (by decide +kernel) rfl
theorem w_797 : Cond.methodLink "LinkHarbour" 256 ⟨"LinkHarbour$Reaching", "isImport", "(I)Z"⟩ ∈ lw_g := mG 797 (by decide +kernel) rfl
theorem w_798 : Cond.instanceMethod ⟨"LinkHarbour$Reaching", "isImport", "(I)Z"⟩ ∈ lw_g := mG 798 (by decide +kernel) rfl
theorem w_799 : Cond.selects "LinkHarbour$Reaching" ⟨"LinkHarbour$Reaching", "isImport", "(I)Z"⟩ ⟨"LinkHarbour$Reaching", "isImport", "(I)Z"⟩ ∈ lw_g := mG 799 (by decide +kernel) rfl
theorem w_802 : Cond.methodLink "LinkHarbour" 259 ⟨"LinkHarbour$Reaching", "references", "(I)I"⟩ ∈ lw_g := mG 802 (by decide +kernel) rfl
theorem w_803 : Cond.instanceMethod ⟨"LinkHarbour$Reaching", "references", "(I)I"⟩ ∈ lw_g := mG 803 (by decide +kernel) rfl
theorem w_804 : Cond.selects "LinkHarbour$Reaching" ⟨"LinkHarbour$Reaching", "references", "(I)I"⟩ ⟨"LinkHarbour$Reaching", "references", "(I)I"⟩ ∈ lw_g := mG 804 (by decide +kernel) rfl
theorem w_807 : Cond.methodLink "LinkHarbour" 410 ⟨"LinkHarbour", "mixFaults", "(J)J"⟩ ∈ lw_g := mG 807 (by decide +kernel) rfl
theorem w_809 : Cond.instanceMethod ⟨"LinkHarbour", "mixFaults", "(J)J"⟩ ∈ lw_g := mG 809 (by decide +kernel) rfl
theorem w_811 : Cond.methodLink "LinkHarbour" 435 ⟨"LinkHarbour", "fault", "(II)I"⟩ ∈ lw_g := mG 811 (by decide +kernel) rfl
theorem w_812 : Cond.instanceMethod ⟨"LinkHarbour", "fault", "(II)I"⟩ ∈ lw_g := mG 812 (by decide +kernel) rfl
theorem w_813 : Cond.selects "LinkHarbour" ⟨"LinkHarbour", "fault", "(II)I"⟩ ⟨"LinkHarbour", "fault", "(II)I"⟩ ∈ lw_g := mG 813 (by decide +kernel) rfl
theorem w_816 : Cond.methodLink "LinkHarbour" 266 ⟨"LinkHarbour$FaultList", "part", "(II)I"⟩ ∈ lw_g := mG 816 (by decide +kernel) rfl
theorem w_817 : Cond.instanceMethod ⟨"LinkHarbour$FaultList", "part", "(II)I"⟩ ∈ lw_g := mG 817 (by decide +kernel) rfl
theorem w_818 : Cond.selects "LinkHarbour$FaultList" ⟨"LinkHarbour$FaultList", "part", "(II)I"⟩ ⟨"LinkHarbour$FaultList", "part", "(II)I"⟩ ∈ lw_g := mG 818 (by decide +kernel) rfl
theorem w_821 : Cond.methodLink "LinkHarbour" 413 ⟨"LinkHarbour", "wordAt", "(I)I"⟩ ∈ lw_g := mG 821 (by decide +kernel) rfl
theorem w_822 : Cond.instanceMethod ⟨"LinkHarbour", "wordAt", "(I)I"⟩ ∈ lw_g := mG 822 (by decide +kernel) rfl
theorem w_823 : Cond.selects "LinkHarbour" ⟨"LinkHarbour", "wordAt", "(I)I"⟩ ⟨"LinkHarbour", "wordAt", "(I)I"⟩ ∈ lw_g := mG 823 (by decide +kernel) rfl
theorem w_826 : Cond.methodLink "LinkHarbour" 274 ⟨"LinkHarbour$Image", "read", "(I)I"⟩ ∈ lw_g := mG 826 (by decide +kernel) rfl
theorem w_827 : Cond.instanceMethod ⟨"LinkHarbour$Image", "read", "(I)I"⟩ ∈ lw_g := mG 827 (by decide +kernel) rfl
theorem w_828 : Cond.selects "LinkHarbour$Image" ⟨"LinkHarbour$Image", "read", "(I)I"⟩ ⟨"LinkHarbour$Image", "read", "(I)I"⟩ ∈ lw_g := mG 828 (by decide +kernel) rfl
theorem w_830 : Cond.methodLink "LinkHarbour" 416 ⟨"LinkHarbour", "mixLibrary", "(JI)J"⟩ ∈ lw_g := mG 830 (by decide +kernel) rfl
theorem w_832 : Cond.instanceMethod ⟨"LinkHarbour", "mixLibrary", "(JI)J"⟩ ∈ lw_g := mG 832 (by decide +kernel) rfl
theorem w_834 : Cond.methodLink "LinkHarbour" 438 ⟨"LinkHarbour", "ofLibrary", "(II)I"⟩ ∈ lw_g := mG 834 (by decide +kernel) rfl
theorem w_835 : Cond.instanceMethod ⟨"LinkHarbour", "ofLibrary", "(II)I"⟩ ∈ lw_g := mG 835 (by decide +kernel) rfl
theorem w_836 : Cond.selects "LinkHarbour" ⟨"LinkHarbour", "ofLibrary", "(II)I"⟩ ⟨"LinkHarbour", "ofLibrary", "(II)I"⟩ ∈ lw_g := mG 836 (by decide +kernel) rfl
theorem w_838 : Cond.methodLink "LinkHarbour" 296 ⟨"LinkHarbour$LibraryTable", "has", "(I)Z"⟩ ∈ lw_g := mG 838 (by decide +kernel) rfl
theorem w_840 : Cond.methodLink "LinkHarbour" 330 ⟨"LinkHarbour$LibraryTable", "size", "(I)I"⟩ ∈ lw_g := mG 840 (by decide +kernel) rfl
theorem w_841 : Cond.instanceMethod ⟨"LinkHarbour$LibraryTable", "size", "(I)I"⟩ ∈ lw_g := mG 841 (by decide +kernel) rfl
theorem w_842 : Cond.selects "LinkHarbour$LibraryTable" ⟨"LinkHarbour$LibraryTable", "size", "(I)I"⟩ ⟨"LinkHarbour$LibraryTable", "size", "(I)I"⟩ ∈ lw_g := mG 842 (by decide +kernel) rfl
theorem w_844 : Cond.methodLink "LinkHarbour" 332 ⟨"LinkHarbour$LibraryTable", "exports", "(I)I"⟩ ∈ lw_g := mG 844 (by decide +kernel) rfl
theorem w_845 : Cond.instanceMethod ⟨"LinkHarbour$LibraryTable", "exports", "(I)I"⟩ ∈ lw_g := mG 845 (by decide +kernel) rfl
theorem w_846 : Cond.selects "LinkHarbour$LibraryTable" ⟨"LinkHarbour$LibraryTable", "exports", "(I)I"⟩ ⟨"LinkHarbour$LibraryTable", "exports", "(I)I"⟩ ∈ lw_g := mG 846 (by decide +kernel) rfl
theorem w_848 : Cond.methodLink "LinkHarbour" 335 ⟨"LinkHarbour$LibraryTable", "imports", "(I)I"⟩ ∈ lw_g := mG 848 (by decide +kernel) rfl
theorem w_849 : Cond.instanceMethod ⟨"LinkHarbour$LibraryTable", "imports", "(I)I"⟩ ∈ lw_g := mG 849 (by decide +kernel) rfl
theorem w_850 : Cond.selects "LinkHarbour$LibraryTable" ⟨"LinkHarbour$LibraryTable", "imports", "(I)I"⟩ ⟨"LinkHarbour$LibraryTable", "imports", "(I)I"⟩ ∈ lw_g := mG 850 (by decide +kernel) rfl
theorem w_852 : Cond.methodLink "LinkHarbour" 338 ⟨"LinkHarbour$LibraryTable", "needs", "(I)I"⟩ ∈ lw_g := mG 852 (by decide +kernel) rfl
theorem w_853 : Cond.instanceMethod ⟨"LinkHarbour$LibraryTable", "needs", "(I)I"⟩ ∈ lw_g := mG 853 (by decide +kernel) rfl
theorem w_854 : Cond.selects "LinkHarbour$LibraryTable" ⟨"LinkHarbour$LibraryTable", "needs", "(I)I"⟩ ⟨"LinkHarbour$LibraryTable", "needs", "(I)I"⟩ ∈ lw_g := mG 854 (by decide +kernel) rfl
theorem w_856 : Cond.methodLink "LinkHarbour" 303 ⟨"LinkHarbour$LibraryTable", "opened", "(I)I"⟩ ∈ lw_g := mG 856 (by decide +kernel) rfl
theorem w_857 : Cond.instanceMethod ⟨"LinkHarbour$LibraryTable", "opened", "(I)I"⟩ ∈ lw_g := mG 857 (by decide +kernel) rfl
theorem w_858 : Cond.selects "LinkHarbour$LibraryTable" ⟨"LinkHarbour$LibraryTable", "opened", "(I)I"⟩ ⟨"LinkHarbour$LibraryTable", "opened", "(I)I"⟩ ∈ lw_g := mG 858 (by decide +kernel) rfl
theorem w_860 : Cond.methodLink "LinkHarbour" 341 ⟨"LinkHarbour$LibraryTable", "base", "(I)I"⟩ ∈ lw_g := mG 860 (by decide +kernel) rfl
theorem w_861 : Cond.methodLink "LinkHarbour" 344 ⟨"LinkHarbour$LibraryTable", "placeAmongGlobal", "(I)I"⟩ ∈ lw_g := mG 861 (by decide +kernel) rfl
theorem w_862 : Cond.instanceMethod ⟨"LinkHarbour$LibraryTable", "placeAmongGlobal", "(I)I"⟩ ∈ lw_g := mG 862 (by decide +kernel) rfl
theorem w_863 : Cond.selects "LinkHarbour$LibraryTable" ⟨"LinkHarbour$LibraryTable", "placeAmongGlobal", "(I)I"⟩ ⟨"LinkHarbour$LibraryTable", "placeAmongGlobal", "(I)I"⟩ ∈ lw_g := mG 863 (by decide +kernel) rfl
theorem w_865 : Cond.methodLink "LinkHarbour$LibraryTable" 91 ⟨"LinkHarbour$LibraryTable", "placeIn", "([III)I"⟩ ∈ lw_g := mG 865 (by decide +kernel) rfl
theorem w_866 : Cond.static ⟨"LinkHarbour$LibraryTable", "placeIn", "([III)I"⟩ ∈ lw_g := mG 866 (by decide +kernel) rfl
theorem w_868 : Cond.methodLink "LinkHarbour" 347 ⟨"LinkHarbour$LibraryTable", "placeAmongInitialised", "(I)I"⟩ ∈ lw_g := mG 868 (by decide +kernel) rfl
theorem w_869 : Cond.instanceMethod ⟨"LinkHarbour$LibraryTable", "placeAmongInitialised", "(I)I"⟩ ∈ lw_g := mG 869 (by decide +kernel) rfl
theorem w_870 : Cond.selects "LinkHarbour$LibraryTable" ⟨"LinkHarbour$LibraryTable", "placeAmongInitialised", "(I)I"⟩ ⟨"LinkHarbour$LibraryTable", "placeAmongInitialised", "(I)I"⟩ ∈ lw_g := mG 870 (by decide +kernel) rfl
theorem w_873 : Cond.methodLink "LinkHarbour" 441 ⟨"LinkHarbour", "goes", "(I)I"⟩ ∈ lw_g := mG 873 (by decide +kernel) rfl
theorem w_874 : Cond.instanceMethod ⟨"LinkHarbour", "goes", "(I)I"⟩ ∈ lw_g := mG 874 (by decide +kernel) rfl
theorem w_875 : Cond.selects "LinkHarbour" ⟨"LinkHarbour", "goes", "(I)I"⟩ ⟨"LinkHarbour", "goes", "(I)I"⟩ ∈ lw_g := mG 875 (by decide +kernel) rfl
theorem w_877 : Cond.methodLink "LinkHarbour" 385 ⟨"LinkHarbour$LibraryTable", "leavingBy", "(I)I"⟩ ∈ lw_g := mG 877 (by decide +kernel) rfl
theorem w_878 : Cond.instanceMethod ⟨"LinkHarbour$LibraryTable", "leavingBy", "(I)I"⟩ ∈ lw_g := mG 878 (by decide +kernel) rfl
theorem w_879 : Cond.selects "LinkHarbour$LibraryTable" ⟨"LinkHarbour$LibraryTable", "leavingBy", "(I)I"⟩ ⟨"LinkHarbour$LibraryTable", "leavingBy", "(I)I"⟩ ∈ lw_g := mG 879 (by decide +kernel) rfl
theorem w_881 : Cond.methodLink "LinkHarbour$LibraryTable" 179 ⟨"LinkHarbour$LibraryTable", "opened", "(I)I"⟩ ∈ lw_g := mG 881 (by decide +kernel) rfl
theorem w_882 : Cond.methodLink "LinkHarbour$LibraryTable" 145 ⟨"LinkHarbour$LibraryTable", "fillRow", "(I)I"⟩ ∈ lw_g := mG 882 (by decide +kernel) rfl
theorem w_884 : Cond.instanceMethod ⟨"LinkHarbour$LibraryTable", "fillRow", "(I)I"⟩ ∈ lw_g := mG 884 (by decide +kernel) rfl
theorem w_886 : Cond.methodLink "LinkHarbour$LibraryTable" 142 ⟨"LinkHarbour$LibraryTable", "neededNow", "(I)I"⟩ ∈ lw_g := mG 886 (by decide +kernel) rfl
theorem w_888 : Cond.instanceMethod ⟨"LinkHarbour$LibraryTable", "neededNow", "(I)I"⟩ ∈ lw_g := mG 888 (by decide +kernel) rfl
theorem w_891 : Cond.methodLink "LinkHarbour" 444 ⟨"LinkHarbour", "ofBinding", "(III)I"⟩ ∈ lw_g := mG 891 (by decide +kernel) rfl
theorem w_892 : Cond.instanceMethod ⟨"LinkHarbour", "ofBinding", "(III)I"⟩ ∈ lw_g := mG 892 (by decide +kernel) rfl
theorem w_893 : Cond.selects "LinkHarbour" ⟨"LinkHarbour", "ofBinding", "(III)I"⟩ ⟨"LinkHarbour", "ofBinding", "(III)I"⟩ ∈ lw_g := mG 893 (by decide +kernel) rfl
theorem w_895 : Cond.methodLink "LinkHarbour" 321 ⟨"LinkHarbour$LibraryTable", "exportAddress", "(II)I"⟩ ∈ lw_g := mG 895 (by decide +kernel) rfl
theorem w_896 : Cond.instanceMethod ⟨"LinkHarbour$LibraryTable", "exportAddress", "(II)I"⟩ ∈ lw_g := mG 896 (by decide +kernel) rfl
theorem w_897 : Cond.selects "LinkHarbour$LibraryTable" ⟨"LinkHarbour$LibraryTable", "exportAddress", "(II)I"⟩ ⟨"LinkHarbour$LibraryTable", "exportAddress", "(II)I"⟩ ∈ lw_g := mG 897 (by decide +kernel) rfl
theorem w_899 : Cond.methodLink "LinkHarbour$LibraryTable" 82 ⟨"LinkHarbour$LibraryTable", "isExport", "(II)Z"⟩ ∈ lw_g := mG 899 (by decide +kernel) rfl
theorem w_900 : Cond.instanceMethod ⟨"LinkHarbour$LibraryTable", "isExport", "(II)Z"⟩ ∈ lw_g := mG 900 (by decide +kernel) rfl
theorem w_901 : Cond.selects "LinkHarbour$LibraryTable" ⟨"LinkHarbour$LibraryTable", "isExport", "(II)Z"⟩ ⟨"LinkHarbour$LibraryTable", "isExport", "(II)Z"⟩ ∈ lw_g := mG 901 (by decide +kernel) rfl
theorem w_904 : Cond.methodLink "LinkHarbour$LibraryTable" 72 ⟨"LinkHarbour$LibraryTable", "exports", "(I)I"⟩ ∈ lw_g := mG 904 (by decide +kernel) rfl
theorem w_905 : Cond.methodLink "LinkHarbour" 314 ⟨"LinkHarbour$LibraryTable", "isImport", "(II)Z"⟩ ∈ lw_g := mG 905 (by decide +kernel) rfl
theorem w_906 : Cond.instanceMethod ⟨"LinkHarbour$LibraryTable", "isImport", "(II)Z"⟩ ∈ lw_g := mG 906 (by decide +kernel) rfl
theorem w_907 : Cond.selects "LinkHarbour$LibraryTable" ⟨"LinkHarbour$LibraryTable", "isImport", "(II)Z"⟩ ⟨"LinkHarbour$LibraryTable", "isImport", "(II)Z"⟩ ∈ lw_g := mG 907 (by decide +kernel) rfl
theorem w_909 : Cond.methodLink "LinkHarbour$LibraryTable" 79 ⟨"LinkHarbour$LibraryTable", "imports", "(I)I"⟩ ∈ lw_g := mG 909 (by decide +kernel) rfl
theorem w_910 : Cond.methodLink "LinkHarbour" 324 ⟨"LinkHarbour$LibraryTable", "boundTo", "(II)I"⟩ ∈ lw_g := mG 910 (by decide +kernel) rfl
theorem w_911 : Cond.instanceMethod ⟨"LinkHarbour$LibraryTable", "boundTo", "(II)I"⟩ ∈ lw_g := mG 911 (by decide +kernel) rfl
theorem w_912 : Cond.selects "LinkHarbour$LibraryTable" ⟨"LinkHarbour$LibraryTable", "boundTo", "(II)I"⟩ ⟨"LinkHarbour$LibraryTable", "boundTo", "(II)I"⟩ ∈ lw_g := mG 912 (by decide +kernel) rfl
theorem w_914 : Cond.methodLink "LinkHarbour" 327 ⟨"LinkHarbour$LibraryTable", "boundAddress", "(II)I"⟩ ∈ lw_g := mG 914 (by decide +kernel) rfl
theorem w_915 : Cond.instanceMethod ⟨"LinkHarbour$LibraryTable", "boundAddress", "(II)I"⟩ ∈ lw_g := mG 915 (by decide +kernel) rfl
theorem w_916 : Cond.selects "LinkHarbour$LibraryTable" ⟨"LinkHarbour$LibraryTable", "boundAddress", "(II)I"⟩ ⟨"LinkHarbour$LibraryTable", "boundAddress", "(II)I"⟩ ∈ lw_g := mG 916 (by decide +kernel) rfl
theorem w_918 : Cond.methodLink "LinkHarbour$LibraryTable" 85 ⟨"LinkHarbour$LibraryTable", "boundTo", "(II)I"⟩ ∈ lw_g := mG 918 (by decide +kernel) rfl
theorem w_919 : Cond.methodLink "LinkHarbour$LibraryTable" 88 ⟨"LinkHarbour$LibraryTable", "exportAddress", "(II)I"⟩ ∈ lw_g := mG 919 (by decide +kernel) rfl
theorem w_920 : Cond.methodLink "LinkHarbour" 448 ⟨"LinkHarbour", "wouldBind", "(II)I"⟩ ∈ lw_g := mG 920 (by decide +kernel) rfl
theorem w_921 : Cond.instanceMethod ⟨"LinkHarbour", "wouldBind", "(II)I"⟩ ∈ lw_g := mG 921 (by decide +kernel) rfl
theorem w_922 : Cond.selects "LinkHarbour" ⟨"LinkHarbour", "wouldBind", "(II)I"⟩ ⟨"LinkHarbour", "wouldBind", "(II)I"⟩ ∈ lw_g := mG 922 (by decide +kernel) rfl
theorem w_924 : Cond.methodLink "LinkHarbour" 311 ⟨"LinkHarbour$LibraryTable", "isLoaded", "(I)Z"⟩ ∈ lw_g := mG 924 (by decide +kernel) rfl
theorem w_925 : Cond.methodLink "LinkHarbour" 388 ⟨"LinkHarbour$LibraryTable", "firstExporter", "(II)I"⟩ ∈ lw_g := mG 925 (by decide +kernel) rfl
theorem w_926 : Cond.instanceMethod ⟨"LinkHarbour$LibraryTable", "firstExporter", "(II)I"⟩ ∈ lw_g := mG 926 (by decide +kernel) rfl
theorem w_927 : Cond.selects "LinkHarbour$LibraryTable" ⟨"LinkHarbour$LibraryTable", "firstExporter", "(II)I"⟩ ⟨"LinkHarbour$LibraryTable", "firstExporter", "(II)I"⟩ ∈ lw_g := mG 927 (by decide +kernel) rfl
theorem w_929 : Cond.methodLink "LinkHarbour" 285 ⟨"LinkHarbour$Link", "isDone", "()Z"⟩ ∈ lw_g := mG 929 (by decide +kernel) rfl
theorem w_930 : Cond.instanceMethod ⟨"LinkHarbour$Link", "isDone", "()Z"⟩ ∈ lw_g := mG 930 (by decide +kernel) rfl
theorem w_931 : Cond.selects "LinkHarbour$Link" ⟨"LinkHarbour$Link", "isDone", "()Z"⟩ ⟨"LinkHarbour$Link", "isDone", "()Z"⟩ ∈ lw_g := mG 931 (by decide +kernel) rfl
theorem w_933 : Cond.methodLink "LinkHarbour" 420 ⟨"LinkHarbour", "sizeWith", "(I)I"⟩ ∈ lw_g := mG 933 (by decide +kernel) rfl
theorem w_934 : Cond.instanceMethod ⟨"LinkHarbour", "sizeWith", "(I)I"⟩ ∈ lw_g := mG 934 (by decide +kernel) rfl
theorem w_935 : Cond.selects "LinkHarbour" ⟨"LinkHarbour", "sizeWith", "(I)I"⟩ ⟨"LinkHarbour", "sizeWith", "(I)I"⟩ ∈ lw_g := mG 935 (by decide +kernel) rfl
theorem w_937 : Cond.methodLink "LinkHarbour" 193 ⟨"LinkHarbour", "isReach", "(I)Z"⟩ ∈ lw_g := mG 937 (by decide +kernel) rfl
theorem w_938 : Cond.static ⟨"LinkHarbour", "isReach", "(I)Z"⟩ ∈ lw_g := mG 938 (by decide +kernel) rfl
theorem w_941 : Cond.classLink "LinkHarbour" 67 "java/lang/IllegalStateException" ∈ lw_g := mG 941 (by decide +kernel) rfl
theorem w_957 : Cond.methodLink "LinkHarbour" 382 ⟨"LinkHarbour$Link", "entry", "()I"⟩ ∈ lw_g := mG 957 (by decide +kernel) rfl
theorem w_958 : Cond.instanceMethod ⟨"LinkHarbour$Link", "entry", "()I"⟩ ∈ lw_g := mG 958 (by decide +kernel) rfl
theorem w_959 : Cond.selects "LinkHarbour$Link" ⟨"LinkHarbour$Link", "entry", "()I"⟩ ⟨"LinkHarbour$Link", "entry", "()I"⟩ ∈ lw_g := mG 959 (by decide +kernel) rfl
theorem w_961 : Cond.methodLink "LinkHarbour" 288 ⟨"LinkHarbour$Link", "isShared", "()Z"⟩ ∈ lw_g := mG 961 (by decide +kernel) rfl
theorem w_962 : Cond.instanceMethod ⟨"LinkHarbour$Link", "isShared", "()Z"⟩ ∈ lw_g := mG 962 (by decide +kernel) rfl
theorem w_963 : Cond.selects "LinkHarbour$Link" ⟨"LinkHarbour$Link", "isShared", "()Z"⟩ ⟨"LinkHarbour$Link", "isShared", "()Z"⟩ ∈ lw_g := mG 963 (by decide +kernel) rfl
theorem w_965 : Cond.methodLink "LinkHarbour" 198 ⟨"LinkHarbour$Link", "run", "(IZIII)V"⟩ ∈ lw_g := mG 965 (by decide +kernel) rfl
theorem w_966 : Cond.instanceMethod ⟨"LinkHarbour$Link", "run", "(IZIII)V"⟩ ∈ lw_g := mG 966 (by decide +kernel) rfl
theorem w_967 : Cond.selects "LinkHarbour$Link" ⟨"LinkHarbour$Link", "run", "(IZIII)V"⟩ ⟨"LinkHarbour$Link", "run", "(IZIII)V"⟩ ∈ lw_g := mG 967 (by decide +kernel) rfl
theorem w_969 : Cond.methodLink "LinkHarbour$Link" 69 ⟨"LinkHarbour$Taking", "take", "(II)V"⟩ ∈ lw_g := mG 969 (by decide +kernel) rfl
theorem w_970 : Cond.instanceMethod ⟨"LinkHarbour$Taking", "take", "(II)V"⟩ ∈ lw_g := mG 970 (by decide +kernel) rfl
theorem w_971 : Cond.selects "LinkHarbour$Taking" ⟨"LinkHarbour$Taking", "take", "(II)V"⟩ ⟨"LinkHarbour$Taking", "take", "(II)V"⟩ ∈ lw_g := mG 971 (by decide +kernel) rfl
theorem w_973 : Cond.methodLink "LinkHarbour$Taking" 43 ⟨"LinkHarbour$ItemRow", "count", "()I"⟩ ∈ lw_g := mG 973 (by decide +kernel) rfl
theorem w_974 : Cond.methodLink "LinkHarbour$Taking" 48 ⟨"LinkHarbour$ItemRow", "isPlain", "(I)Z"⟩ ∈ lw_g := mG 974 (by decide +kernel) rfl
theorem w_975 : Cond.instanceMethod ⟨"LinkHarbour$ItemRow", "isPlain", "(I)Z"⟩ ∈ lw_g := mG 975 (by decide +kernel) rfl
theorem w_976 : Cond.selects "LinkHarbour$ItemRow" ⟨"LinkHarbour$ItemRow", "isPlain", "(I)Z"⟩ ⟨"LinkHarbour$ItemRow", "isPlain", "(I)Z"⟩ ∈ lw_g := mG 976 (by decide +kernel) rfl
theorem w_978 : Cond.methodLink "LinkHarbour$Taking" 52 ⟨"LinkHarbour$ItemRow", "set", "(I)I"⟩ ∈ lw_g := mG 978 (by decide +kernel) rfl
theorem w_979 : Cond.instanceMethod ⟨"LinkHarbour$ItemRow", "set", "(I)I"⟩ ∈ lw_g := mG 979 (by decide +kernel) rfl
theorem w_980 : Cond.selects "LinkHarbour$ItemRow" ⟨"LinkHarbour$ItemRow", "set", "(I)I"⟩ ⟨"LinkHarbour$ItemRow", "set", "(I)I"⟩ ∈ lw_g := mG 980 (by decide +kernel) rfl
theorem w_982 : Cond.methodLink "LinkHarbour$Taking" 56 ⟨"LinkHarbour$Taking", "takeAll", "(I)V"⟩ ∈ lw_g := mG 982 (by decide +kernel) rfl
theorem w_984 : Cond.instanceMethod ⟨"LinkHarbour$Taking", "takeAll", "(I)V"⟩ ∈ lw_g := mG 984 (by decide +kernel) rfl
theorem w_987 : Cond.methodLink "LinkHarbour$Taking" 67 ⟨"LinkHarbour$Taking", "add", "(I)V"⟩ ∈ lw_g := mG 987 (by decide +kernel) rfl
theorem w_989 : Cond.instanceMethod ⟨"LinkHarbour$Taking", "add", "(I)V"⟩ ∈ lw_g := mG 989 (by decide +kernel) rfl
theorem w_991 : Cond.methodLink "LinkHarbour$Taking" 81 ⟨"LinkHarbour$ObjectTable", "needed", "(I)I"⟩ ∈ lw_g := mG 991 (by decide +kernel) rfl
theorem w_992 : Cond.instanceMethod ⟨"LinkHarbour$ObjectTable", "needed", "(I)I"⟩ ∈ lw_g := mG 992 (by decide +kernel) rfl
theorem w_993 : Cond.selects "LinkHarbour$ObjectTable" ⟨"LinkHarbour$ObjectTable", "needed", "(I)I"⟩ ⟨"LinkHarbour$ObjectTable", "needed", "(I)I"⟩ ∈ lw_g := mG 993 (by decide +kernel) rfl
theorem w_995 : Cond.methodLink "LinkHarbour$Taking" 83 ⟨"LinkHarbour$ObjectTable", "defined", "(I)I"⟩ ∈ lw_g := mG 995 (by decide +kernel) rfl
theorem w_996 : Cond.methodLink "LinkHarbour$Taking" 60 ⟨"LinkHarbour$ItemRow", "joinsAhead", "(I)Z"⟩ ∈ lw_g := mG 996 (by decide +kernel) rfl
theorem w_997 : Cond.instanceMethod ⟨"LinkHarbour$ItemRow", "joinsAhead", "(I)Z"⟩ ∈ lw_g := mG 997 (by decide +kernel) rfl
theorem w_998 : Cond.selects "LinkHarbour$ItemRow" ⟨"LinkHarbour$ItemRow", "joinsAhead", "(I)Z"⟩ ⟨"LinkHarbour$ItemRow", "joinsAhead", "(I)Z"⟩ ∈ lw_g := mG 998 (by decide +kernel) rfl
theorem w_1000 : Cond.methodLink "LinkHarbour$Taking" 63 ⟨"LinkHarbour$Taking", "takeGroup", "(II)V"⟩ ∈ lw_g := mG 1000 (by decide +kernel) rfl
theorem w_1002 : Cond.instanceMethod ⟨"LinkHarbour$Taking", "takeGroup", "(II)V"⟩ ∈ lw_g := mG 1002 (by decide +kernel) rfl
theorem w_1004 : Cond.methodLink "LinkHarbour$Taking" 70 ⟨"LinkHarbour$ItemRow", "groupEnd", "(I)I"⟩ ∈ lw_g := mG 1004 (by decide +kernel) rfl
theorem w_1005 : Cond.instanceMethod ⟨"LinkHarbour$ItemRow", "groupEnd", "(I)I"⟩ ∈ lw_g := mG 1005 (by decide +kernel) rfl
theorem w_1006 : Cond.selects "LinkHarbour$ItemRow" ⟨"LinkHarbour$ItemRow", "groupEnd", "(I)I"⟩ ⟨"LinkHarbour$ItemRow", "groupEnd", "(I)I"⟩ ∈ lw_g := mG 1006 (by decide +kernel) rfl
theorem w_1008 : Cond.methodLink "LinkHarbour$ItemRow" 30 ⟨"LinkHarbour$ItemRow", "joinsAhead", "(I)Z"⟩ ∈ lw_g := mG 1008 (by decide +kernel) rfl
theorem w_1009 : Cond.methodLink "LinkHarbour$Taking" 73 ⟨"LinkHarbour$Taking", "takeWanted", "(I)V"⟩ ∈ lw_g := mG 1009 (by decide +kernel) rfl
theorem w_1011 : Cond.instanceMethod ⟨"LinkHarbour$Taking", "takeWanted", "(I)V"⟩ ∈ lw_g := mG 1011 (by decide +kernel) rfl
theorem w_1013 : Cond.methodLink "LinkHarbour$Taking" 76 ⟨"LinkHarbour$ObjectTable", "offered", "(I)I"⟩ ∈ lw_g := mG 1013 (by decide +kernel) rfl
theorem w_1014 : Cond.instanceMethod ⟨"LinkHarbour$ObjectTable", "offered", "(I)I"⟩ ∈ lw_g := mG 1014 (by decide +kernel) rfl
theorem w_1015 : Cond.selects "LinkHarbour$ObjectTable" ⟨"LinkHarbour$ObjectTable", "offered", "(I)I"⟩ ⟨"LinkHarbour$ObjectTable", "offered", "(I)I"⟩ ∈ lw_g := mG 1015 (by decide +kernel) rfl
theorem w_1017 : Cond.methodLink "LinkHarbour$Link" 73 ⟨"LinkHarbour$Settling", "settle", "()V"⟩ ∈ lw_g := mG 1017 (by decide +kernel) rfl
theorem w_1018 : Cond.instanceMethod ⟨"LinkHarbour$Settling", "settle", "()V"⟩ ∈ lw_g := mG 1018 (by decide +kernel) rfl
theorem w_1019 : Cond.selects "LinkHarbour$Settling" ⟨"LinkHarbour$Settling", "settle", "()V"⟩ ⟨"LinkHarbour$Settling", "settle", "()V"⟩ ∈ lw_g := mG 1019 (by decide +kernel) rfl
theorem w_1021 : Cond.methodLink "LinkHarbour$Settling" 48 ⟨"LinkHarbour$Taking", "count", "()I"⟩ ∈ lw_g := mG 1021 (by decide +kernel) rfl
theorem w_1022 : Cond.methodLink "LinkHarbour$Settling" 54 ⟨"LinkHarbour$Taking", "objectAt", "(I)I"⟩ ∈ lw_g := mG 1022 (by decide +kernel) rfl
theorem w_1023 : Cond.instanceMethod ⟨"LinkHarbour$Taking", "objectAt", "(I)I"⟩ ∈ lw_g := mG 1023 (by decide +kernel) rfl
theorem w_1024 : Cond.selects "LinkHarbour$Taking" ⟨"LinkHarbour$Taking", "objectAt", "(I)I"⟩ ⟨"LinkHarbour$Taking", "objectAt", "(I)I"⟩ ∈ lw_g := mG 1024 (by decide +kernel) rfl
theorem w_1026 : Cond.methodLink "LinkHarbour$Settling" 58 ⟨"LinkHarbour$Settling", "weigh", "(II)V"⟩ ∈ lw_g := mG 1026 (by decide +kernel) rfl
theorem w_1028 : Cond.instanceMethod ⟨"LinkHarbour$Settling", "weigh", "(II)V"⟩ ∈ lw_g := mG 1028 (by decide +kernel) rfl
theorem w_1030 : Cond.methodLink "LinkHarbour$Settling" 62 ⟨"LinkHarbour$ObjectTable", "kind", "(II)I"⟩ ∈ lw_g := mG 1030 (by decide +kernel) rfl
theorem w_1031 : Cond.instanceMethod ⟨"LinkHarbour$ObjectTable", "kind", "(II)I"⟩ ∈ lw_g := mG 1031 (by decide +kernel) rfl
theorem w_1032 : Cond.selects "LinkHarbour$ObjectTable" ⟨"LinkHarbour$ObjectTable", "kind", "(II)I"⟩ ⟨"LinkHarbour$ObjectTable", "kind", "(II)I"⟩ ∈ lw_g := mG 1032 (by decide +kernel) rfl
theorem w_1034 : Cond.methodLink "LinkHarbour$ObjectTable" 43 ⟨"LinkHarbour$ObjectTable", "has", "(I)Z"⟩ ∈ lw_g := mG 1034 (by decide +kernel) rfl
theorem w_1037 : Cond.methodLink "LinkHarbour$Settling" 72 ⟨"LinkHarbour$ObjectTable", "size", "(II)I"⟩ ∈ lw_g := mG 1037 (by decide +kernel) rfl
theorem w_1038 : Cond.instanceMethod ⟨"LinkHarbour$ObjectTable", "size", "(II)I"⟩ ∈ lw_g := mG 1038 (by decide +kernel) rfl
theorem w_1039 : Cond.selects "LinkHarbour$ObjectTable" ⟨"LinkHarbour$ObjectTable", "size", "(II)I"⟩ ⟨"LinkHarbour$ObjectTable", "size", "(II)I"⟩ ∈ lw_g := mG 1039 (by decide +kernel) rfl
theorem w_1041 : Cond.methodLink "LinkHarbour$Settling" 75 ⟨"java/lang/Math", "max", "(II)I"⟩ ∈ lw_g := mG 1041 (by decide +kernel) rfl
theorem w_1042 : Cond.static ⟨"java/lang/Math", "max", "(II)I"⟩ ∈ lw_g := mG 1042 (by decide +kernel) rfl
theorem w_1044 : Cond.methodLink "LinkHarbour$Settling" 80 ⟨"LinkHarbour$ObjectTable", "align", "(II)I"⟩ ∈ lw_g := mG 1044 (by decide +kernel) rfl
theorem w_1045 : Cond.instanceMethod ⟨"LinkHarbour$ObjectTable", "align", "(II)I"⟩ ∈ lw_g := mG 1045 (by decide +kernel) rfl
theorem w_1046 : Cond.selects "LinkHarbour$ObjectTable" ⟨"LinkHarbour$ObjectTable", "align", "(II)I"⟩ ⟨"LinkHarbour$ObjectTable", "align", "(II)I"⟩ ∈ lw_g := mG 1046 (by decide +kernel) rfl
theorem w_1048 : Cond.methodLink "LinkHarbour$Settling" 83 ⟨"LinkHarbour$Settling", "adopt", "(III)V"⟩ ∈ lw_g := mG 1048 (by decide +kernel) rfl
theorem w_1050 : Cond.instanceMethod ⟨"LinkHarbour$Settling", "adopt", "(III)V"⟩ ∈ lw_g := mG 1050 (by decide +kernel) rfl
theorem w_1052 : Cond.methodLink "LinkHarbour$Settling" 87 ⟨"LinkHarbour$ObjectTable", "sectionOf", "(II)I"⟩ ∈ lw_g := mG 1052 (by decide +kernel) rfl
theorem w_1053 : Cond.instanceMethod ⟨"LinkHarbour$ObjectTable", "sectionOf", "(II)I"⟩ ∈ lw_g := mG 1053 (by decide +kernel) rfl
theorem w_1054 : Cond.selects "LinkHarbour$ObjectTable" ⟨"LinkHarbour$ObjectTable", "sectionOf", "(II)I"⟩ ⟨"LinkHarbour$ObjectTable", "sectionOf", "(II)I"⟩ ∈ lw_g := mG 1054 (by decide +kernel) rfl
theorem w_1056 : Cond.methodLink "LinkHarbour$Settling" 89 ⟨"LinkHarbour$ObjectTable", "placeOf", "(II)I"⟩ ∈ lw_g := mG 1056 (by decide +kernel) rfl
theorem w_1057 : Cond.instanceMethod ⟨"LinkHarbour$ObjectTable", "placeOf", "(II)I"⟩ ∈ lw_g := mG 1057 (by decide +kernel) rfl
theorem w_1058 : Cond.selects "LinkHarbour$ObjectTable" ⟨"LinkHarbour$ObjectTable", "placeOf", "(II)I"⟩ ⟨"LinkHarbour$ObjectTable", "placeOf", "(II)I"⟩ ∈ lw_g := mG 1058 (by decide +kernel) rfl
theorem w_1060 : Cond.methodLink "LinkHarbour$Settling" 91 ⟨"LinkHarbour$ObjectTable", "isHidden", "(II)Z"⟩ ∈ lw_g := mG 1060 (by decide +kernel) rfl
theorem w_1061 : Cond.instanceMethod ⟨"LinkHarbour$ObjectTable", "isHidden", "(II)Z"⟩ ∈ lw_g := mG 1061 (by decide +kernel) rfl
theorem w_1062 : Cond.selects "LinkHarbour$ObjectTable" ⟨"LinkHarbour$ObjectTable", "isHidden", "(II)Z"⟩ ⟨"LinkHarbour$ObjectTable", "isHidden", "(II)Z"⟩ ∈ lw_g := mG 1062 (by decide +kernel) rfl
theorem w_1064 : Cond.methodLink "LinkHarbour$Link" 76 ⟨"LinkHarbour$Reaching", "reachAll", "(IZ)V"⟩ ∈ lw_g := mG 1064 (by decide +kernel) rfl
theorem w_1065 : Cond.instanceMethod ⟨"LinkHarbour$Reaching", "reachAll", "(IZ)V"⟩ ∈ lw_g := mG 1065 (by decide +kernel) rfl
theorem w_1066 : Cond.selects "LinkHarbour$Reaching" ⟨"LinkHarbour$Reaching", "reachAll", "(IZ)V"⟩ ⟨"LinkHarbour$Reaching", "reachAll", "(IZ)V"⟩ ∈ lw_g := mG 1066 (by decide +kernel) rfl
theorem w_1068 : Cond.methodLink "LinkHarbour$Reaching" 54 ⟨"LinkHarbour$Reaching", "forget", "()V"⟩ ∈ lw_g := mG 1068 (by decide +kernel) rfl
theorem w_1070 : Cond.instanceMethod ⟨"LinkHarbour$Reaching", "forget", "()V"⟩ ∈ lw_g := mG 1070 (by decide +kernel) rfl
theorem w_1072 : Cond.methodLink "LinkHarbour$Reaching" 57 ⟨"LinkHarbour$SectionTable", "count", "()I"⟩ ∈ lw_g := mG 1072 (by decide +kernel) rfl
theorem w_1073 : Cond.methodLink "LinkHarbour$Reaching" 63 ⟨"LinkHarbour$SectionTable", "isKept", "(I)Z"⟩ ∈ lw_g := mG 1073 (by decide +kernel) rfl
theorem w_1074 : Cond.instanceMethod ⟨"LinkHarbour$SectionTable", "isKept", "(I)Z"⟩ ∈ lw_g := mG 1074 (by decide +kernel) rfl
theorem w_1075 : Cond.selects "LinkHarbour$SectionTable" ⟨"LinkHarbour$SectionTable", "isKept", "(I)Z"⟩ ⟨"LinkHarbour$SectionTable", "isKept", "(I)Z"⟩ ∈ lw_g := mG 1075 (by decide +kernel) rfl
theorem w_1077 : Cond.methodLink "LinkHarbour$Reaching" 66 ⟨"LinkHarbour$SectionTable", "objectOf", "(I)I"⟩ ∈ lw_g := mG 1077 (by decide +kernel) rfl
theorem w_1078 : Cond.methodLink "LinkHarbour$Reaching" 70 ⟨"LinkHarbour$Taking", "isTaken", "(I)Z"⟩ ∈ lw_g := mG 1078 (by decide +kernel) rfl
theorem w_1079 : Cond.instanceMethod ⟨"LinkHarbour$Taking", "isTaken", "(I)Z"⟩ ∈ lw_g := mG 1079 (by decide +kernel) rfl
theorem w_1080 : Cond.selects "LinkHarbour$Taking" ⟨"LinkHarbour$Taking", "isTaken", "(I)Z"⟩ ⟨"LinkHarbour$Taking", "isTaken", "(I)Z"⟩ ∈ lw_g := mG 1080 (by decide +kernel) rfl
theorem w_1083 : Cond.methodLink "LinkHarbour$Reaching" 75 ⟨"LinkHarbour$Reaching", "reachSection", "(I)V"⟩ ∈ lw_g := mG 1083 (by decide +kernel) rfl
theorem w_1085 : Cond.instanceMethod ⟨"LinkHarbour$Reaching", "reachSection", "(I)V"⟩ ∈ lw_g := mG 1085 (by decide +kernel) rfl
theorem w_1087 : Cond.methodLink "LinkHarbour$Reaching" 79 ⟨"LinkHarbour$Reaching", "reachName", "(I)V"⟩ ∈ lw_g := mG 1087 (by decide +kernel) rfl
theorem w_1089 : Cond.instanceMethod ⟨"LinkHarbour$Reaching", "reachName", "(I)V"⟩ ∈ lw_g := mG 1089 (by decide +kernel) rfl
theorem w_1091 : Cond.methodLink "LinkHarbour$Reaching" 101 ⟨"LinkHarbour$Settling", "kind", "(I)I"⟩ ∈ lw_g := mG 1091 (by decide +kernel) rfl
theorem w_1092 : Cond.methodLink "LinkHarbour$Reaching" 104 ⟨"LinkHarbour$Settling", "sectionOf", "(I)I"⟩ ∈ lw_g := mG 1092 (by decide +kernel) rfl
theorem w_1093 : Cond.instanceMethod ⟨"LinkHarbour$Settling", "sectionOf", "(I)I"⟩ ∈ lw_g := mG 1093 (by decide +kernel) rfl
theorem w_1094 : Cond.selects "LinkHarbour$Settling" ⟨"LinkHarbour$Settling", "sectionOf", "(I)I"⟩ ⟨"LinkHarbour$Settling", "sectionOf", "(I)I"⟩ ∈ lw_g := mG 1094 (by decide +kernel) rfl
theorem w_1096 : Cond.methodLink "LinkHarbour$Reaching" 82 ⟨"LinkHarbour$Settling", "isHidden", "(I)Z"⟩ ∈ lw_g := mG 1096 (by decide +kernel) rfl
theorem w_1097 : Cond.instanceMethod ⟨"LinkHarbour$Settling", "isHidden", "(I)Z"⟩ ∈ lw_g := mG 1097 (by decide +kernel) rfl
theorem w_1098 : Cond.selects "LinkHarbour$Settling" ⟨"LinkHarbour$Settling", "isHidden", "(I)Z"⟩ ⟨"LinkHarbour$Settling", "isHidden", "(I)Z"⟩ ∈ lw_g := mG 1098 (by decide +kernel) rfl
theorem w_1101 : Cond.methodLink "LinkHarbour$Reaching" 87 ⟨"LinkHarbour$Reaching", "follow", "(IZ)V"⟩ ∈ lw_g := mG 1101 (by decide +kernel) rfl
theorem w_1103 : Cond.instanceMethod ⟨"LinkHarbour$Reaching", "follow", "(IZ)V"⟩ ∈ lw_g := mG 1103 (by decide +kernel) rfl
theorem w_1105 : Cond.methodLink "LinkHarbour$Reaching" 91 ⟨"LinkHarbour$SectionTable", "pieces", "(I)I"⟩ ∈ lw_g := mG 1105 (by decide +kernel) rfl
theorem w_1106 : Cond.methodLink "LinkHarbour$Reaching" 94 ⟨"LinkHarbour$SectionTable", "name", "(II)I"⟩ ∈ lw_g := mG 1106 (by decide +kernel) rfl
theorem w_1107 : Cond.instanceMethod ⟨"LinkHarbour$SectionTable", "name", "(II)I"⟩ ∈ lw_g := mG 1107 (by decide +kernel) rfl
theorem w_1108 : Cond.selects "LinkHarbour$SectionTable" ⟨"LinkHarbour$SectionTable", "name", "(II)I"⟩ ⟨"LinkHarbour$SectionTable", "name", "(II)I"⟩ ∈ lw_g := mG 1108 (by decide +kernel) rfl
theorem w_1110 : Cond.methodLink "LinkHarbour$SectionTable" 56 ⟨"LinkHarbour$SectionTable", "hasPiece", "(II)Z"⟩ ∈ lw_g := mG 1110 (by decide +kernel) rfl
theorem w_1112 : Cond.instanceMethod ⟨"LinkHarbour$SectionTable", "hasPiece", "(II)Z"⟩ ∈ lw_g := mG 1112 (by decide +kernel) rfl
theorem w_1114 : Cond.methodLink "LinkHarbour$Reaching" 98 ⟨"LinkHarbour$SectionTable", "isReference", "(II)Z"⟩ ∈ lw_g := mG 1114 (by decide +kernel) rfl
theorem w_1115 : Cond.instanceMethod ⟨"LinkHarbour$SectionTable", "isReference", "(II)Z"⟩ ∈ lw_g := mG 1115 (by decide +kernel) rfl
theorem w_1116 : Cond.selects "LinkHarbour$SectionTable" ⟨"LinkHarbour$SectionTable", "isReference", "(II)Z"⟩ ⟨"LinkHarbour$SectionTable", "isReference", "(II)Z"⟩ ∈ lw_g := mG 1116 (by decide +kernel) rfl
theorem w_1118 : Cond.methodLink "LinkHarbour$SectionTable" 60 ⟨"LinkHarbour$SectionTable", "kind", "(II)I"⟩ ∈ lw_g := mG 1118 (by decide +kernel) rfl
theorem w_1119 : Cond.instanceMethod ⟨"LinkHarbour$SectionTable", "kind", "(II)I"⟩ ∈ lw_g := mG 1119 (by decide +kernel) rfl
theorem w_1120 : Cond.selects "LinkHarbour$SectionTable" ⟨"LinkHarbour$SectionTable", "kind", "(II)I"⟩ ⟨"LinkHarbour$SectionTable", "kind", "(II)I"⟩ ∈ lw_g := mG 1120 (by decide +kernel) rfl
theorem w_1122 : Cond.methodLink "LinkHarbour$Link" 80 ⟨"LinkHarbour$Layout", "layOut", "(I)V"⟩ ∈ lw_g := mG 1122 (by decide +kernel) rfl
theorem w_1123 : Cond.instanceMethod ⟨"LinkHarbour$Layout", "layOut", "(I)V"⟩ ∈ lw_g := mG 1123 (by decide +kernel) rfl
theorem w_1124 : Cond.selects "LinkHarbour$Layout" ⟨"LinkHarbour$Layout", "layOut", "(I)V"⟩ ⟨"LinkHarbour$Layout", "layOut", "(I)V"⟩ ∈ lw_g := mG 1124 (by decide +kernel) rfl
theorem w_1126 : Cond.methodLink "LinkHarbour$Layout" 72 ⟨"LinkHarbour$Layout", "orderSections", "()V"⟩ ∈ lw_g := mG 1126 (by decide +kernel) rfl
theorem w_1128 : Cond.instanceMethod ⟨"LinkHarbour$Layout", "orderSections", "()V"⟩ ∈ lw_g := mG 1128 (by decide +kernel) rfl
theorem w_1130 : Cond.methodLink "LinkHarbour$Layout" 87 ⟨"LinkHarbour$Taking", "count", "()I"⟩ ∈ lw_g := mG 1130 (by decide +kernel) rfl
theorem w_1131 : Cond.methodLink "LinkHarbour$Layout" 93 ⟨"LinkHarbour$Taking", "objectAt", "(I)I"⟩ ∈ lw_g := mG 1131 (by decide +kernel) rfl
theorem w_1132 : Cond.methodLink "LinkHarbour$Layout" 96 ⟨"LinkHarbour$SectionTable", "count", "()I"⟩ ∈ lw_g := mG 1132 (by decide +kernel) rfl
theorem w_1133 : Cond.methodLink "LinkHarbour$Layout" 99 ⟨"LinkHarbour$SectionTable", "objectOf", "(I)I"⟩ ∈ lw_g := mG 1133 (by decide +kernel) rfl
theorem w_1134 : Cond.methodLink "LinkHarbour$Layout" 102 ⟨"LinkHarbour$Layout", "append", "(I)V"⟩ ∈ lw_g := mG 1134 (by decide +kernel) rfl
theorem w_1136 : Cond.instanceMethod ⟨"LinkHarbour$Layout", "append", "(I)V"⟩ ∈ lw_g := mG 1136 (by decide +kernel) rfl
theorem w_1138 : Cond.methodLink "LinkHarbour$Layout" 106 ⟨"LinkHarbour$SectionTable", "words", "(II)I"⟩ ∈ lw_g := mG 1138 (by decide +kernel) rfl
theorem w_1139 : Cond.instanceMethod ⟨"LinkHarbour$SectionTable", "words", "(II)I"⟩ ∈ lw_g := mG 1139 (by decide +kernel) rfl
theorem w_1140 : Cond.selects "LinkHarbour$SectionTable" ⟨"LinkHarbour$SectionTable", "words", "(II)I"⟩ ⟨"LinkHarbour$SectionTable", "words", "(II)I"⟩ ∈ lw_g := mG 1140 (by decide +kernel) rfl
theorem w_1142 : Cond.methodLink "LinkHarbour$Layout" 75 ⟨"LinkHarbour$Layout", "placeSections", "()V"⟩ ∈ lw_g := mG 1142 (by decide +kernel) rfl
theorem w_1144 : Cond.instanceMethod ⟨"LinkHarbour$Layout", "placeSections", "()V"⟩ ∈ lw_g := mG 1144 (by decide +kernel) rfl
theorem w_1146 : Cond.methodLink "LinkHarbour$Layout" 110 ⟨"LinkHarbour$SectionTable", "align", "(I)I"⟩ ∈ lw_g := mG 1146 (by decide +kernel) rfl
theorem w_1148 : Cond.static ⟨"LinkHarbour", "roundUp", "(II)I"⟩ ∈ lw_g := mG 1148 (by decide +kernel) rfl
theorem w_1150 : Cond.methodLink "LinkHarbour$Layout" 116 ⟨"LinkHarbour$Layout", "wordsAhead", "(II)I"⟩ ∈ lw_g := mG 1150 (by decide +kernel) rfl
theorem w_1152 : Cond.instanceMethod ⟨"LinkHarbour$Layout", "wordsAhead", "(II)I"⟩ ∈ lw_g := mG 1152 (by decide +kernel) rfl
theorem w_1154 : Cond.methodLink "LinkHarbour$Layout" 133 ⟨"LinkHarbour$Layout", "width", "(II)I"⟩ ∈ lw_g := mG 1154 (by decide +kernel) rfl
theorem w_1155 : Cond.instanceMethod ⟨"LinkHarbour$Layout", "width", "(II)I"⟩ ∈ lw_g := mG 1155 (by decide +kernel) rfl
theorem w_1156 : Cond.selects "LinkHarbour$Layout" ⟨"LinkHarbour$Layout", "width", "(II)I"⟩ ⟨"LinkHarbour$Layout", "width", "(II)I"⟩ ∈ lw_g := mG 1156 (by decide +kernel) rfl
theorem w_1158 : Cond.methodLink "LinkHarbour$Layout" 78 ⟨"LinkHarbour$Layout", "placeCommons", "()V"⟩ ∈ lw_g := mG 1158 (by decide +kernel) rfl
theorem w_1160 : Cond.instanceMethod ⟨"LinkHarbour$Layout", "placeCommons", "()V"⟩ ∈ lw_g := mG 1160 (by decide +kernel) rfl
theorem w_1162 : Cond.methodLink "LinkHarbour$Layout" 119 ⟨"LinkHarbour$Reaching", "hasCommon", "(I)Z"⟩ ∈ lw_g := mG 1162 (by decide +kernel) rfl
theorem w_1163 : Cond.instanceMethod ⟨"LinkHarbour$Reaching", "hasCommon", "(I)Z"⟩ ∈ lw_g := mG 1163 (by decide +kernel) rfl
theorem w_1164 : Cond.selects "LinkHarbour$Reaching" ⟨"LinkHarbour$Reaching", "hasCommon", "(I)Z"⟩ ⟨"LinkHarbour$Reaching", "hasCommon", "(I)Z"⟩ ∈ lw_g := mG 1164 (by decide +kernel) rfl
theorem w_1166 : Cond.methodLink "LinkHarbour$Layout" 122 ⟨"LinkHarbour$Settling", "align", "(I)I"⟩ ∈ lw_g := mG 1166 (by decide +kernel) rfl
theorem w_1167 : Cond.instanceMethod ⟨"LinkHarbour$Settling", "align", "(I)I"⟩ ∈ lw_g := mG 1167 (by decide +kernel) rfl
theorem w_1168 : Cond.selects "LinkHarbour$Settling" ⟨"LinkHarbour$Settling", "align", "(I)I"⟩ ⟨"LinkHarbour$Settling", "align", "(I)I"⟩ ∈ lw_g := mG 1168 (by decide +kernel) rfl
theorem w_1170 : Cond.methodLink "LinkHarbour$Layout" 125 ⟨"LinkHarbour$Settling", "size", "(I)I"⟩ ∈ lw_g := mG 1170 (by decide +kernel) rfl
theorem w_1171 : Cond.instanceMethod ⟨"LinkHarbour$Settling", "size", "(I)I"⟩ ∈ lw_g := mG 1171 (by decide +kernel) rfl
theorem w_1172 : Cond.selects "LinkHarbour$Settling" ⟨"LinkHarbour$Settling", "size", "(I)I"⟩ ⟨"LinkHarbour$Settling", "size", "(I)I"⟩ ∈ lw_g := mG 1172 (by decide +kernel) rfl
theorem w_1174 : Cond.methodLink "LinkHarbour$Layout" 81 ⟨"LinkHarbour$Layout", "addressNames", "()V"⟩ ∈ lw_g := mG 1174 (by decide +kernel) rfl
theorem w_1176 : Cond.instanceMethod ⟨"LinkHarbour$Layout", "addressNames", "()V"⟩ ∈ lw_g := mG 1176 (by decide +kernel) rfl
theorem w_1178 : Cond.methodLink "LinkHarbour$Layout" 127 ⟨"LinkHarbour$Settling", "sectionOf", "(I)I"⟩ ∈ lw_g := mG 1178 (by decide +kernel) rfl
theorem w_1179 : Cond.methodLink "LinkHarbour$Layout" 130 ⟨"LinkHarbour$Settling", "placeOf", "(I)I"⟩ ∈ lw_g := mG 1179 (by decide +kernel) rfl
theorem w_1180 : Cond.instanceMethod ⟨"LinkHarbour$Settling", "placeOf", "(I)I"⟩ ∈ lw_g := mG 1180 (by decide +kernel) rfl
theorem w_1181 : Cond.selects "LinkHarbour$Settling" ⟨"LinkHarbour$Settling", "placeOf", "(I)I"⟩ ⟨"LinkHarbour$Settling", "placeOf", "(I)I"⟩ ∈ lw_g := mG 1181 (by decide +kernel) rfl
theorem w_1183 : Cond.methodLink "LinkHarbour$Layout" 84 ⟨"LinkHarbour$Layout", "lengthenAll", "(I)Z"⟩ ∈ lw_g := mG 1183 (by decide +kernel) rfl
theorem w_1185 : Cond.instanceMethod ⟨"LinkHarbour$Layout", "lengthenAll", "(I)Z"⟩ ∈ lw_g := mG 1185 (by decide +kernel) rfl
theorem w_1187 : Cond.methodLink "LinkHarbour$Layout" 135 ⟨"LinkHarbour$Layout", "lengthenIn", "(II)Z"⟩ ∈ lw_g := mG 1187 (by decide +kernel) rfl
theorem w_1189 : Cond.instanceMethod ⟨"LinkHarbour$Layout", "lengthenIn", "(II)Z"⟩ ∈ lw_g := mG 1189 (by decide +kernel) rfl
theorem w_1191 : Cond.methodLink "LinkHarbour$Layout" 138 ⟨"LinkHarbour$SectionTable", "kind", "(II)I"⟩ ∈ lw_g := mG 1191 (by decide +kernel) rfl
theorem w_1192 : Cond.methodLink "LinkHarbour$Layout" 141 ⟨"LinkHarbour$SectionTable", "name", "(II)I"⟩ ∈ lw_g := mG 1192 (by decide +kernel) rfl
theorem w_1193 : Cond.methodLink "LinkHarbour$Layout" 144 ⟨"LinkHarbour$Layout", "standsFor", "(I)I"⟩ ∈ lw_g := mG 1193 (by decide +kernel) rfl
theorem w_1194 : Cond.instanceMethod ⟨"LinkHarbour$Layout", "standsFor", "(I)I"⟩ ∈ lw_g := mG 1194 (by decide +kernel) rfl
theorem w_1195 : Cond.selects "LinkHarbour$Layout" ⟨"LinkHarbour$Layout", "standsFor", "(I)I"⟩ ⟨"LinkHarbour$Layout", "standsFor", "(I)I"⟩ ∈ lw_g := mG 1195 (by decide +kernel) rfl
theorem w_1197 : Cond.methodLink "LinkHarbour$Layout" 147 ⟨"java/lang/Math", "abs", "(I)I"⟩ ∈ lw_g := mG 1197 (by decide +kernel) rfl
theorem w_1198 : Cond.static ⟨"java/lang/Math", "abs", "(I)I"⟩ ∈ lw_g := mG 1198 (by decide +kernel) rfl
theorem w_1200 : Cond.methodLink "LinkHarbour$Link" 84 ⟨"LinkHarbour$Link", "tellFaults", "(I)V"⟩ ∈ lw_g := mG 1200 (by decide +kernel) rfl
theorem w_1202 : Cond.instanceMethod ⟨"LinkHarbour$Link", "tellFaults", "(I)V"⟩ ∈ lw_g := mG 1202 (by decide +kernel) rfl
theorem w_1204 : Cond.methodLink "LinkHarbour$Link" 87 ⟨"LinkHarbour$FaultList", "forget", "()V"⟩ ∈ lw_g := mG 1204 (by decide +kernel) rfl
theorem w_1205 : Cond.instanceMethod ⟨"LinkHarbour$FaultList", "forget", "()V"⟩ ∈ lw_g := mG 1205 (by decide +kernel) rfl
theorem w_1206 : Cond.selects "LinkHarbour$FaultList" ⟨"LinkHarbour$FaultList", "forget", "()V"⟩ ⟨"LinkHarbour$FaultList", "forget", "()V"⟩ ∈ lw_g := mG 1206 (by decide +kernel) rfl
theorem w_1208 : Cond.methodLink "LinkHarbour$Link" 90 ⟨"LinkHarbour$Settling", "isTwiceStrong", "(I)Z"⟩ ∈ lw_g := mG 1208 (by decide +kernel) rfl
theorem w_1209 : Cond.instanceMethod ⟨"LinkHarbour$Settling", "isTwiceStrong", "(I)Z"⟩ ∈ lw_g := mG 1209 (by decide +kernel) rfl
theorem w_1210 : Cond.selects "LinkHarbour$Settling" ⟨"LinkHarbour$Settling", "isTwiceStrong", "(I)Z"⟩ ⟨"LinkHarbour$Settling", "isTwiceStrong", "(I)Z"⟩ ∈ lw_g := mG 1210 (by decide +kernel) rfl
theorem w_1212 : Cond.methodLink "LinkHarbour$Link" 94 ⟨"LinkHarbour$FaultList", "add", "(IIII)V"⟩ ∈ lw_g := mG 1212 (by decide +kernel) rfl
theorem w_1213 : Cond.instanceMethod ⟨"LinkHarbour$FaultList", "add", "(IIII)V"⟩ ∈ lw_g := mG 1213 (by decide +kernel) rfl
theorem w_1214 : Cond.selects "LinkHarbour$FaultList" ⟨"LinkHarbour$FaultList", "add", "(IIII)V"⟩ ⟨"LinkHarbour$FaultList", "add", "(IIII)V"⟩ ∈ lw_g := mG 1214 (by decide +kernel) rfl
theorem w_1216 : Cond.methodLink "LinkHarbour$Link" 98 ⟨"LinkHarbour$Settling", "kind", "(I)I"⟩ ∈ lw_g := mG 1216 (by decide +kernel) rfl
theorem w_1217 : Cond.methodLink "LinkHarbour$Link" 102 ⟨"LinkHarbour$Layout", "laid", "()I"⟩ ∈ lw_g := mG 1217 (by decide +kernel) rfl
theorem w_1218 : Cond.instanceMethod ⟨"LinkHarbour$Layout", "laid", "()I"⟩ ∈ lw_g := mG 1218 (by decide +kernel) rfl
theorem w_1219 : Cond.selects "LinkHarbour$Layout" ⟨"LinkHarbour$Layout", "laid", "()I"⟩ ⟨"LinkHarbour$Layout", "laid", "()I"⟩ ∈ lw_g := mG 1219 (by decide +kernel) rfl
theorem w_1221 : Cond.methodLink "LinkHarbour$Link" 106 ⟨"LinkHarbour$Layout", "sectionAt", "(I)I"⟩ ∈ lw_g := mG 1221 (by decide +kernel) rfl
theorem w_1222 : Cond.instanceMethod ⟨"LinkHarbour$Layout", "sectionAt", "(I)I"⟩ ∈ lw_g := mG 1222 (by decide +kernel) rfl
theorem w_1223 : Cond.selects "LinkHarbour$Layout" ⟨"LinkHarbour$Layout", "sectionAt", "(I)I"⟩ ⟨"LinkHarbour$Layout", "sectionAt", "(I)I"⟩ ∈ lw_g := mG 1223 (by decide +kernel) rfl
theorem w_1225 : Cond.methodLink "LinkHarbour$Link" 109 ⟨"LinkHarbour$SectionTable", "pieces", "(I)I"⟩ ∈ lw_g := mG 1225 (by decide +kernel) rfl
theorem w_1226 : Cond.methodLink "LinkHarbour$Link" 114 ⟨"LinkHarbour$SectionTable", "isReference", "(II)Z"⟩ ∈ lw_g := mG 1226 (by decide +kernel) rfl
theorem w_1227 : Cond.methodLink "LinkHarbour$Link" 118 ⟨"LinkHarbour$Link", "tellFaultsOf", "(III)V"⟩ ∈ lw_g := mG 1227 (by decide +kernel) rfl
theorem w_1229 : Cond.instanceMethod ⟨"LinkHarbour$Link", "tellFaultsOf", "(III)V"⟩ ∈ lw_g := mG 1229 (by decide +kernel) rfl
theorem w_1231 : Cond.methodLink "LinkHarbour$Link" 122 ⟨"LinkHarbour$SectionTable", "name", "(II)I"⟩ ∈ lw_g := mG 1231 (by decide +kernel) rfl
theorem w_1232 : Cond.methodLink "LinkHarbour$Link" 126 ⟨"LinkHarbour$Reaching", "isImport", "(I)Z"⟩ ∈ lw_g := mG 1232 (by decide +kernel) rfl
theorem w_1233 : Cond.methodLink "LinkHarbour$Link" 129 ⟨"LinkHarbour$SectionTable", "isWeak", "(II)Z"⟩ ∈ lw_g := mG 1233 (by decide +kernel) rfl
theorem w_1234 : Cond.instanceMethod ⟨"LinkHarbour$SectionTable", "isWeak", "(II)Z"⟩ ∈ lw_g := mG 1234 (by decide +kernel) rfl
theorem w_1235 : Cond.selects "LinkHarbour$SectionTable" ⟨"LinkHarbour$SectionTable", "isWeak", "(II)Z"⟩ ⟨"LinkHarbour$SectionTable", "isWeak", "(II)Z"⟩ ∈ lw_g := mG 1235 (by decide +kernel) rfl
theorem w_1237 : Cond.methodLink "LinkHarbour$Link" 132 ⟨"LinkHarbour$SectionTable", "kind", "(II)I"⟩ ∈ lw_g := mG 1237 (by decide +kernel) rfl
theorem w_1238 : Cond.methodLink "LinkHarbour$Link" 134 ⟨"LinkHarbour$Layout", "standsFor", "(I)I"⟩ ∈ lw_g := mG 1238 (by decide +kernel) rfl
theorem w_1239 : Cond.methodLink "LinkHarbour$Link" 137 ⟨"LinkHarbour$SectionTable", "added", "(II)I"⟩ ∈ lw_g := mG 1239 (by decide +kernel) rfl
theorem w_1240 : Cond.instanceMethod ⟨"LinkHarbour$SectionTable", "added", "(II)I"⟩ ∈ lw_g := mG 1240 (by decide +kernel) rfl
theorem w_1241 : Cond.selects "LinkHarbour$SectionTable" ⟨"LinkHarbour$SectionTable", "added", "(II)I"⟩ ⟨"LinkHarbour$SectionTable", "added", "(II)I"⟩ ∈ lw_g := mG 1241 (by decide +kernel) rfl
theorem w_1243 : Cond.methodLink "LinkHarbour" 423 ⟨"LinkHarbour", "faultsWithout", "(I)I"⟩ ∈ lw_g := mG 1243 (by decide +kernel) rfl
theorem w_1244 : Cond.instanceMethod ⟨"LinkHarbour", "faultsWithout", "(I)I"⟩ ∈ lw_g := mG 1244 (by decide +kernel) rfl
theorem w_1245 : Cond.selects "LinkHarbour" ⟨"LinkHarbour", "faultsWithout", "(I)I"⟩ ⟨"LinkHarbour", "faultsWithout", "(I)I"⟩ ∈ lw_g := mG 1245 (by decide +kernel) rfl
theorem w_1250 : Cond.classLink "LinkHarbourLaw" 13 "java/lang/IllegalStateException" ∈ lw_g := mG 1250 (by decide +kernel) rfl
theorem w_1251 : Cond.methodLink "LinkHarbourLaw" 7 ⟨"LinkHarbour", "object", "()I"⟩ ∈ lw_g := mG 1251 (by decide +kernel) rfl
theorem w_1252 : Cond.instanceMethod ⟨"LinkHarbour", "object", "()I"⟩ ∈ lw_g := mG 1252 (by decide +kernel) rfl
theorem w_1253 : Cond.selects "LinkHarbour" ⟨"LinkHarbour", "object", "()I"⟩ ⟨"LinkHarbour", "object", "()I"⟩ ∈ lw_g := mG 1253 (by decide +kernel) rfl
theorem w_1255 : Cond.methodLink "LinkHarbour" 63 ⟨"LinkHarbour$ObjectTable", "isFull", "()Z"⟩ ∈ lw_g := mG 1255 (by decide +kernel) rfl
theorem w_1256 : Cond.instanceMethod ⟨"LinkHarbour$ObjectTable", "isFull", "()Z"⟩ ∈ lw_g := mG 1256 (by decide +kernel) rfl
theorem w_1257 : Cond.selects "LinkHarbour$ObjectTable" ⟨"LinkHarbour$ObjectTable", "isFull", "()Z"⟩ ⟨"LinkHarbour$ObjectTable", "isFull", "()Z"⟩ ∈ lw_g := mG 1257 (by decide +kernel) rfl
theorem w_1260 : Cond.methodLink "LinkHarbour" 74 ⟨"LinkHarbour$ObjectTable", "add", "()I"⟩ ∈ lw_g := mG 1260 (by decide +kernel) rfl
theorem w_1261 : Cond.instanceMethod ⟨"LinkHarbour$ObjectTable", "add", "()I"⟩ ∈ lw_g := mG 1261 (by decide +kernel) rfl
theorem w_1262 : Cond.selects "LinkHarbour$ObjectTable" ⟨"LinkHarbour$ObjectTable", "add", "()I"⟩ ⟨"LinkHarbour$ObjectTable", "add", "()I"⟩ ∈ lw_g := mG 1262 (by decide +kernel) rfl
theorem w_1267 : Cond.classLink "LinkHarbourLaw" 19 "java/lang/IndexOutOfBoundsException" ∈ lw_g := mG 1267 (by decide +kernel) rfl
theorem w_1268 : Cond.classLink "LinkHarbourLaw" 21 "java/lang/IllegalArgumentException" ∈ lw_g := mG 1268 (by decide +kernel) rfl
theorem w_1269 : Cond.methodLink "LinkHarbourLaw" 15 ⟨"LinkHarbour", "section", "(IIZ)I"⟩ ∈ lw_g := mG 1269 (by decide +kernel) rfl
theorem w_1270 : Cond.instanceMethod ⟨"LinkHarbour", "section", "(IIZ)I"⟩ ∈ lw_g := mG 1270 (by decide +kernel) rfl
theorem w_1271 : Cond.selects "LinkHarbour" ⟨"LinkHarbour", "section", "(IIZ)I"⟩ ⟨"LinkHarbour", "section", "(IIZ)I"⟩ ∈ lw_g := mG 1271 (by decide +kernel) rfl
theorem w_1273 : Cond.methodLink "LinkHarbour" 87 ⟨"LinkHarbour", "isAlign", "(I)Z"⟩ ∈ lw_g := mG 1273 (by decide +kernel) rfl
theorem w_1274 : Cond.static ⟨"LinkHarbour", "isAlign", "(I)Z"⟩ ∈ lw_g := mG 1274 (by decide +kernel) rfl
theorem w_1277 : Cond.methodLink "LinkHarbour" 95 ⟨"LinkHarbour$SectionTable", "isFull", "()Z"⟩ ∈ lw_g := mG 1277 (by decide +kernel) rfl
theorem w_1278 : Cond.instanceMethod ⟨"LinkHarbour$SectionTable", "isFull", "()Z"⟩ ∈ lw_g := mG 1278 (by decide +kernel) rfl
theorem w_1279 : Cond.selects "LinkHarbour$SectionTable" ⟨"LinkHarbour$SectionTable", "isFull", "()Z"⟩ ⟨"LinkHarbour$SectionTable", "isFull", "()Z"⟩ ∈ lw_g := mG 1279 (by decide +kernel) rfl
theorem w_1282 : Cond.methodLink "LinkHarbour" 98 ⟨"LinkHarbour$SectionTable", "add", "(IIZ)I"⟩ ∈ lw_g := mG 1282 (by decide +kernel) rfl
theorem w_1283 : Cond.instanceMethod ⟨"LinkHarbour$SectionTable", "add", "(IIZ)I"⟩ ∈ lw_g := mG 1283 (by decide +kernel) rfl
theorem w_1284 : Cond.selects "LinkHarbour$SectionTable" ⟨"LinkHarbour$SectionTable", "add", "(IIZ)I"⟩ ⟨"LinkHarbour$SectionTable", "add", "(IIZ)I"⟩ ∈ lw_g := mG 1284 (by decide +kernel) rfl
theorem w_1286 : Cond.methodLink "LinkHarbour$SectionTable" 41 ⟨"LinkHarbour$SectionTable", "isFull", "()Z"⟩ ∈ lw_g := mG 1286 (by decide +kernel) rfl
theorem w_1290 : Cond.methodLink "LinkHarbourLaw" 23 ⟨"LinkHarbour", "fill", "(II)I"⟩ ∈ lw_g := mG 1290 (by decide +kernel) rfl
theorem w_1291 : Cond.instanceMethod ⟨"LinkHarbour", "fill", "(II)I"⟩ ∈ lw_g := mG 1291 (by decide +kernel) rfl
theorem w_1292 : Cond.selects "LinkHarbour" ⟨"LinkHarbour", "fill", "(II)I"⟩ ⟨"LinkHarbour", "fill", "(II)I"⟩ ∈ lw_g := mG 1292 (by decide +kernel) rfl
theorem w_1295 : Cond.methodLink "LinkHarbour" 106 ⟨"LinkHarbour$SectionTable", "isFilled", "(I)Z"⟩ ∈ lw_g := mG 1295 (by decide +kernel) rfl
theorem w_1296 : Cond.instanceMethod ⟨"LinkHarbour$SectionTable", "isFilled", "(I)Z"⟩ ∈ lw_g := mG 1296 (by decide +kernel) rfl
theorem w_1297 : Cond.selects "LinkHarbour$SectionTable" ⟨"LinkHarbour$SectionTable", "isFilled", "(I)Z"⟩ ⟨"LinkHarbour$SectionTable", "isFilled", "(I)Z"⟩ ∈ lw_g := mG 1297 (by decide +kernel) rfl
theorem w_1299 : Cond.methodLink "LinkHarbour$SectionTable" 45 ⟨"LinkHarbour$SectionTable", "pieces", "(I)I"⟩ ∈ lw_g := mG 1299 (by decide +kernel) rfl
theorem w_1301 : Cond.methodLink "LinkHarbour" 111 ⟨"LinkHarbour$SectionTable", "addPiece", "(IIIIZ)I"⟩ ∈ lw_g := mG 1301 (by decide +kernel) rfl
theorem w_1302 : Cond.instanceMethod ⟨"LinkHarbour$SectionTable", "addPiece", "(IIIIZ)I"⟩ ∈ lw_g := mG 1302 (by decide +kernel) rfl
theorem w_1303 : Cond.selects "LinkHarbour$SectionTable" ⟨"LinkHarbour$SectionTable", "addPiece", "(IIIIZ)I"⟩ ⟨"LinkHarbour$SectionTable", "addPiece", "(IIIIZ)I"⟩ ∈ lw_g := mG 1303 (by decide +kernel) rfl
theorem w_1305 : Cond.methodLink "LinkHarbour$SectionTable" 53 ⟨"LinkHarbour$SectionTable", "isFilled", "(I)Z"⟩ ∈ lw_g := mG 1305 (by decide +kernel) rfl
theorem w_1309 : Cond.methodLink "LinkHarbourLaw" 27 ⟨"LinkHarbour", "word", "(IIIZ)I"⟩ ∈ lw_g := mG 1309 (by decide +kernel) rfl
theorem w_1310 : Cond.instanceMethod ⟨"LinkHarbour", "word", "(IIIZ)I"⟩ ∈ lw_g := mG 1310 (by decide +kernel) rfl
theorem w_1311 : Cond.selects "LinkHarbour" ⟨"LinkHarbour", "word", "(IIIZ)I"⟩ ⟨"LinkHarbour", "word", "(IIIZ)I"⟩ ∈ lw_g := mG 1311 (by decide +kernel) rfl
theorem w_1314 : Cond.methodLink "LinkHarbour" 120 ⟨"LinkHarbour", "addReference", "(IIIIZ)I"⟩ ∈ lw_g := mG 1314 (by decide +kernel) rfl
theorem w_1316 : Cond.instanceMethod ⟨"LinkHarbour", "addReference", "(IIIIZ)I"⟩ ∈ lw_g := mG 1316 (by decide +kernel) rfl
theorem w_1318 : Cond.methodLink "LinkHarbour" 453 ⟨"LinkHarbour$ObjectTable", "need", "(II)V"⟩ ∈ lw_g := mG 1318 (by decide +kernel) rfl
theorem w_1319 : Cond.instanceMethod ⟨"LinkHarbour$ObjectTable", "need", "(II)V"⟩ ∈ lw_g := mG 1319 (by decide +kernel) rfl
theorem w_1320 : Cond.selects "LinkHarbour$ObjectTable" ⟨"LinkHarbour$ObjectTable", "need", "(II)V"⟩ ⟨"LinkHarbour$ObjectTable", "need", "(II)V"⟩ ∈ lw_g := mG 1320 (by decide +kernel) rfl
theorem w_1325 : Cond.methodLink "LinkHarbourLaw" 31 ⟨"LinkHarbour", "jump", "(IIZ)I"⟩ ∈ lw_g := mG 1325 (by decide +kernel) rfl
theorem w_1326 : Cond.instanceMethod ⟨"LinkHarbour", "jump", "(IIZ)I"⟩ ∈ lw_g := mG 1326 (by decide +kernel) rfl
theorem w_1327 : Cond.selects "LinkHarbour" ⟨"LinkHarbour", "jump", "(IIZ)I"⟩ ⟨"LinkHarbour", "jump", "(IIZ)I"⟩ ∈ lw_g := mG 1327 (by decide +kernel) rfl
theorem w_1332 : Cond.methodLink "LinkHarbourLaw" 34 ⟨"LinkHarbour", "define", "(IIZZ)I"⟩ ∈ lw_g := mG 1332 (by decide +kernel) rfl
theorem w_1333 : Cond.instanceMethod ⟨"LinkHarbour", "define", "(IIZZ)I"⟩ ∈ lw_g := mG 1333 (by decide +kernel) rfl
theorem w_1334 : Cond.selects "LinkHarbour" ⟨"LinkHarbour", "define", "(IIZZ)I"⟩ ⟨"LinkHarbour", "define", "(IIZZ)I"⟩ ∈ lw_g := mG 1334 (by decide +kernel) rfl
theorem w_1336 : Cond.methodLink "LinkHarbour" 129 ⟨"LinkHarbour$ObjectTable", "kind", "(II)I"⟩ ∈ lw_g := mG 1336 (by decide +kernel) rfl
theorem w_1338 : Cond.methodLink "LinkHarbour" 138 ⟨"LinkHarbour$ObjectTable", "addDefinition", "(IIIII)V"⟩ ∈ lw_g := mG 1338 (by decide +kernel) rfl
theorem w_1339 : Cond.instanceMethod ⟨"LinkHarbour$ObjectTable", "addDefinition", "(IIIII)V"⟩ ∈ lw_g := mG 1339 (by decide +kernel) rfl
theorem w_1340 : Cond.selects "LinkHarbour$ObjectTable" ⟨"LinkHarbour$ObjectTable", "addDefinition", "(IIIII)V"⟩ ⟨"LinkHarbour$ObjectTable", "addDefinition", "(IIIII)V"⟩ ∈ lw_g := mG 1340 (by decide +kernel) rfl
theorem w_1342 : Cond.methodLink "LinkHarbour" 142 ⟨"LinkHarbour$ObjectTable", "hide", "(II)V"⟩ ∈ lw_g := mG 1342 (by decide +kernel) rfl
theorem w_1343 : Cond.instanceMethod ⟨"LinkHarbour$ObjectTable", "hide", "(II)V"⟩ ∈ lw_g := mG 1343 (by decide +kernel) rfl
theorem w_1344 : Cond.selects "LinkHarbour$ObjectTable" ⟨"LinkHarbour$ObjectTable", "hide", "(II)V"⟩ ⟨"LinkHarbour$ObjectTable", "hide", "(II)V"⟩ ∈ lw_g := mG 1344 (by decide +kernel) rfl
theorem w_1349 : Cond.methodLink "LinkHarbourLaw" 38 ⟨"LinkHarbour", "common", "(IIII)I"⟩ ∈ lw_g := mG 1349 (by decide +kernel) rfl
theorem w_1350 : Cond.instanceMethod ⟨"LinkHarbour", "common", "(IIII)I"⟩ ∈ lw_g := mG 1350 (by decide +kernel) rfl
theorem w_1351 : Cond.selects "LinkHarbour" ⟨"LinkHarbour", "common", "(IIII)I"⟩ ⟨"LinkHarbour", "common", "(IIII)I"⟩ ∈ lw_g := mG 1351 (by decide +kernel) rfl
theorem w_1354 : Cond.methodLink "LinkHarbour" 148 ⟨"LinkHarbour$ObjectTable", "addCommon", "(IIII)V"⟩ ∈ lw_g := mG 1354 (by decide +kernel) rfl
theorem w_1355 : Cond.instanceMethod ⟨"LinkHarbour$ObjectTable", "addCommon", "(IIII)V"⟩ ∈ lw_g := mG 1355 (by decide +kernel) rfl
theorem w_1356 : Cond.selects "LinkHarbour$ObjectTable" ⟨"LinkHarbour$ObjectTable", "addCommon", "(IIII)V"⟩ ⟨"LinkHarbour$ObjectTable", "addCommon", "(IIII)V"⟩ ∈ lw_g := mG 1356 (by decide +kernel) rfl
theorem w_1358 : Cond.methodLink "LinkHarbour$ObjectTable" 50 ⟨"LinkHarbour$ObjectTable", "addDefinition", "(IIIII)V"⟩ ∈ lw_g := mG 1358 (by decide +kernel) rfl
theorem w_1362 : Cond.methodLink "LinkHarbourLaw" 42 ⟨"LinkHarbour", "item", "(II)I"⟩ ∈ lw_g := mG 1362 (by decide +kernel) rfl
theorem w_1363 : Cond.instanceMethod ⟨"LinkHarbour", "item", "(II)I"⟩ ∈ lw_g := mG 1363 (by decide +kernel) rfl
theorem w_1364 : Cond.selects "LinkHarbour" ⟨"LinkHarbour", "item", "(II)I"⟩ ⟨"LinkHarbour", "item", "(II)I"⟩ ∈ lw_g := mG 1364 (by decide +kernel) rfl
theorem w_1366 : Cond.methodLink "LinkHarbour" 160 ⟨"LinkHarbour$ObjectTable", "hasAll", "(I)Z"⟩ ∈ lw_g := mG 1366 (by decide +kernel) rfl
theorem w_1367 : Cond.instanceMethod ⟨"LinkHarbour$ObjectTable", "hasAll", "(I)Z"⟩ ∈ lw_g := mG 1367 (by decide +kernel) rfl
theorem w_1368 : Cond.selects "LinkHarbour$ObjectTable" ⟨"LinkHarbour$ObjectTable", "hasAll", "(I)Z"⟩ ⟨"LinkHarbour$ObjectTable", "hasAll", "(I)Z"⟩ ∈ lw_g := mG 1368 (by decide +kernel) rfl
theorem w_1371 : Cond.methodLink "LinkHarbour" 165 ⟨"LinkHarbour$ItemRow", "isFull", "()Z"⟩ ∈ lw_g := mG 1371 (by decide +kernel) rfl
theorem w_1372 : Cond.instanceMethod ⟨"LinkHarbour$ItemRow", "isFull", "()Z"⟩ ∈ lw_g := mG 1372 (by decide +kernel) rfl
theorem w_1373 : Cond.selects "LinkHarbour$ItemRow" ⟨"LinkHarbour$ItemRow", "isFull", "()Z"⟩ ⟨"LinkHarbour$ItemRow", "isFull", "()Z"⟩ ∈ lw_g := mG 1373 (by decide +kernel) rfl
theorem w_1375 : Cond.methodLink "LinkHarbour" 166 ⟨"LinkHarbour$ItemRow", "hasAny", "(I)Z"⟩ ∈ lw_g := mG 1375 (by decide +kernel) rfl
theorem w_1376 : Cond.instanceMethod ⟨"LinkHarbour$ItemRow", "hasAny", "(I)Z"⟩ ∈ lw_g := mG 1376 (by decide +kernel) rfl
theorem w_1377 : Cond.selects "LinkHarbour$ItemRow" ⟨"LinkHarbour$ItemRow", "hasAny", "(I)Z"⟩ ⟨"LinkHarbour$ItemRow", "hasAny", "(I)Z"⟩ ∈ lw_g := mG 1377 (by decide +kernel) rfl
theorem w_1380 : Cond.methodLink "LinkHarbour" 171 ⟨"LinkHarbour$ItemRow", "add", "(II)I"⟩ ∈ lw_g := mG 1380 (by decide +kernel) rfl
theorem w_1381 : Cond.instanceMethod ⟨"LinkHarbour$ItemRow", "add", "(II)I"⟩ ∈ lw_g := mG 1381 (by decide +kernel) rfl
theorem w_1382 : Cond.selects "LinkHarbour$ItemRow" ⟨"LinkHarbour$ItemRow", "add", "(II)I"⟩ ⟨"LinkHarbour$ItemRow", "add", "(II)I"⟩ ∈ lw_g := mG 1382 (by decide +kernel) rfl
theorem w_1384 : Cond.methodLink "LinkHarbour$ItemRow" 22 ⟨"LinkHarbour$ItemRow", "isFull", "()Z"⟩ ∈ lw_g := mG 1384 (by decide +kernel) rfl
theorem w_1388 : Cond.methodLink "LinkHarbourLaw" 45 ⟨"LinkHarbour", "ofObject", "(II)I"⟩ ∈ lw_g := mG 1388 (by decide +kernel) rfl
theorem w_1392 : Cond.methodLink "LinkHarbourLaw" 48 ⟨"LinkHarbour", "bounds", "(II)I"⟩ ∈ lw_g := mG 1392 (by decide +kernel) rfl
theorem w_1393 : Cond.instanceMethod ⟨"LinkHarbour", "bounds", "(II)I"⟩ ∈ lw_g := mG 1393 (by decide +kernel) rfl
theorem w_1394 : Cond.selects "LinkHarbour" ⟨"LinkHarbour", "bounds", "(II)I"⟩ ⟨"LinkHarbour", "bounds", "(II)I"⟩ ∈ lw_g := mG 1394 (by decide +kernel) rfl
theorem w_1400 : Cond.methodLink "LinkHarbourLaw" 51 ⟨"LinkHarbour", "link", "(IZ)I"⟩ ∈ lw_g := mG 1400 (by decide +kernel) rfl
theorem w_1401 : Cond.instanceMethod ⟨"LinkHarbour", "link", "(IZ)I"⟩ ∈ lw_g := mG 1401 (by decide +kernel) rfl
theorem w_1402 : Cond.selects "LinkHarbour" ⟨"LinkHarbour", "link", "(IZ)I"⟩ ⟨"LinkHarbour", "link", "(IZ)I"⟩ ∈ lw_g := mG 1402 (by decide +kernel) rfl
theorem w_1404 : Cond.methodLink "LinkHarbour" 202 ⟨"LinkHarbour$Link", "writeTo", "(LLinkHarbour$Image;)V"⟩ ∈ lw_g := mG 1404 (by decide +kernel) rfl
theorem w_1405 : Cond.instanceMethod ⟨"LinkHarbour$Link", "writeTo", "(LLinkHarbour$Image;)V"⟩ ∈ lw_g := mG 1405 (by decide +kernel) rfl
theorem w_1406 : Cond.selects "LinkHarbour$Link" ⟨"LinkHarbour$Link", "writeTo", "(LLinkHarbour$Image;)V"⟩ ⟨"LinkHarbour$Link", "writeTo", "(LLinkHarbour$Image;)V"⟩ ∈ lw_g := mG 1406 (by decide +kernel) rfl
theorem w_1408 : Cond.methodLink "LinkHarbour$Link" 140 ⟨"LinkHarbour$Layout", "size", "()I"⟩ ∈ lw_g := mG 1408 (by decide +kernel) rfl
theorem w_1409 : Cond.methodLink "LinkHarbour$Link" 143 ⟨"LinkHarbour$Image", "clearUpTo", "(I)V"⟩ ∈ lw_g := mG 1409 (by decide +kernel) rfl
theorem w_1410 : Cond.instanceMethod ⟨"LinkHarbour$Image", "clearUpTo", "(I)V"⟩ ∈ lw_g := mG 1410 (by decide +kernel) rfl
theorem w_1411 : Cond.selects "LinkHarbour$Image" ⟨"LinkHarbour$Image", "clearUpTo", "(I)V"⟩ ⟨"LinkHarbour$Image", "clearUpTo", "(I)V"⟩ ∈ lw_g := mG 1411 (by decide +kernel) rfl
theorem w_1413 : Cond.methodLink "LinkHarbour$Image" 15 ⟨"java/lang/Math", "max", "(II)I"⟩ ∈ lw_g := mG 1413 (by decide +kernel) rfl
theorem w_1414 : Cond.methodLink "LinkHarbour$Link" 148 ⟨"LinkHarbour$Layout", "addressOf", "(I)I"⟩ ∈ lw_g := mG 1414 (by decide +kernel) rfl
theorem w_1415 : Cond.methodLink "LinkHarbour$Link" 151 ⟨"LinkHarbour$Link", "writePiece", "(LLinkHarbour$Image;III)V"⟩ ∈ lw_g := mG 1415 (by decide +kernel) rfl
theorem w_1417 : Cond.instanceMethod ⟨"LinkHarbour$Link", "writePiece", "(LLinkHarbour$Image;III)V"⟩ ∈ lw_g := mG 1417 (by decide +kernel) rfl
theorem w_1419 : Cond.methodLink "LinkHarbour$Link" 158 ⟨"LinkHarbour$Image", "put", "(II)V"⟩ ∈ lw_g := mG 1419 (by decide +kernel) rfl
theorem w_1420 : Cond.instanceMethod ⟨"LinkHarbour$Image", "put", "(II)V"⟩ ∈ lw_g := mG 1420 (by decide +kernel) rfl
theorem w_1421 : Cond.selects "LinkHarbour$Image" ⟨"LinkHarbour$Image", "put", "(II)V"⟩ ⟨"LinkHarbour$Image", "put", "(II)V"⟩ ∈ lw_g := mG 1421 (by decide +kernel) rfl
theorem w_1423 : Cond.methodLink "LinkHarbour$Link" 155 ⟨"LinkHarbour$Layout", "width", "(II)I"⟩ ∈ lw_g := mG 1423 (by decide +kernel) rfl
theorem w_1427 : Cond.methodLink "LinkHarbourLaw" 55 ⟨"LinkHarbour", "ofSection", "(II)I"⟩ ∈ lw_g := mG 1427 (by decide +kernel) rfl
theorem w_1431 : Cond.methodLink "LinkHarbourLaw" 58 ⟨"LinkHarbour", "ofName", "(II)I"⟩ ∈ lw_g := mG 1431 (by decide +kernel) rfl
theorem w_1435 : Cond.methodLink "LinkHarbourLaw" 61 ⟨"LinkHarbour", "fault", "(II)I"⟩ ∈ lw_g := mG 1435 (by decide +kernel) rfl
theorem w_1439 : Cond.methodLink "LinkHarbourLaw" 64 ⟨"LinkHarbour", "wordAt", "(I)I"⟩ ∈ lw_g := mG 1439 (by decide +kernel) rfl
theorem w_1443 : Cond.methodLink "LinkHarbourLaw" 68 ⟨"LinkHarbour", "publish", "(I)I"⟩ ∈ lw_g := mG 1443 (by decide +kernel) rfl
theorem w_1444 : Cond.instanceMethod ⟨"LinkHarbour", "publish", "(I)I"⟩ ∈ lw_g := mG 1444 (by decide +kernel) rfl
theorem w_1445 : Cond.selects "LinkHarbour" ⟨"LinkHarbour", "publish", "(I)I"⟩ ⟨"LinkHarbour", "publish", "(I)I"⟩ ∈ lw_g := mG 1445 (by decide +kernel) rfl
theorem w_1447 : Cond.methodLink "LinkHarbour" 278 ⟨"LinkHarbour", "hasBit", "(II)Z"⟩ ∈ lw_g := mG 1447 (by decide +kernel) rfl
theorem w_1449 : Cond.methodLink "LinkHarbour" 284 ⟨"LinkHarbour$LibraryTable", "isFull", "()Z"⟩ ∈ lw_g := mG 1449 (by decide +kernel) rfl
theorem w_1450 : Cond.instanceMethod ⟨"LinkHarbour$LibraryTable", "isFull", "()Z"⟩ ∈ lw_g := mG 1450 (by decide +kernel) rfl
theorem w_1451 : Cond.selects "LinkHarbour$LibraryTable" ⟨"LinkHarbour$LibraryTable", "isFull", "()Z"⟩ ⟨"LinkHarbour$LibraryTable", "isFull", "()Z"⟩ ∈ lw_g := mG 1451 (by decide +kernel) rfl
theorem w_1454 : Cond.methodLink "LinkHarbour" 293 ⟨"LinkHarbour$LibraryTable", "add", "(LLinkHarbour$Link;I)I"⟩ ∈ lw_g := mG 1454 (by decide +kernel) rfl
theorem w_1455 : Cond.instanceMethod ⟨"LinkHarbour$LibraryTable", "add", "(LLinkHarbour$Link;I)I"⟩ ∈ lw_g := mG 1455 (by decide +kernel) rfl
theorem w_1456 : Cond.selects "LinkHarbour$LibraryTable" ⟨"LinkHarbour$LibraryTable", "add", "(LLinkHarbour$Link;I)I"⟩ ⟨"LinkHarbour$LibraryTable", "add", "(LLinkHarbour$Link;I)I"⟩ ∈ lw_g := mG 1456 (by decide +kernel) rfl
theorem w_1458 : Cond.methodLink "LinkHarbour$LibraryTable" 104 ⟨"LinkHarbour$LibraryTable", "isFull", "()Z"⟩ ∈ lw_g := mG 1458 (by decide +kernel) rfl
theorem w_1459 : Cond.methodLink "LinkHarbour$LibraryTable" 114 ⟨"LinkHarbour$Layout", "size", "()I"⟩ ∈ lw_g := mG 1459 (by decide +kernel) rfl
theorem w_1460 : Cond.methodLink "LinkHarbour$LibraryTable" 123 ⟨"LinkHarbour$Reaching", "imports", "()I"⟩ ∈ lw_g := mG 1460 (by decide +kernel) rfl
theorem w_1461 : Cond.methodLink "LinkHarbour$LibraryTable" 127 ⟨"LinkHarbour$Layout", "addressOfName", "(I)I"⟩ ∈ lw_g := mG 1461 (by decide +kernel) rfl
theorem w_1462 : Cond.methodLink "LinkHarbour$LibraryTable" 134 ⟨"LinkHarbour$Settling", "isHidden", "(I)Z"⟩ ∈ lw_g := mG 1462 (by decide +kernel) rfl
theorem w_1466 : Cond.methodLink "LinkHarbourLaw" 71 ⟨"LinkHarbour", "open", "(IZ)I"⟩ ∈ lw_g := mG 1466 (by decide +kernel) rfl
theorem w_1467 : Cond.instanceMethod ⟨"LinkHarbour", "open", "(IZ)I"⟩ ∈ lw_g := mG 1467 (by decide +kernel) rfl
theorem w_1468 : Cond.selects "LinkHarbour" ⟨"LinkHarbour", "open", "(IZ)I"⟩ ⟨"LinkHarbour", "open", "(IZ)I"⟩ ∈ lw_g := mG 1468 (by decide +kernel) rfl
theorem w_1470 : Cond.methodLink "LinkHarbour" 299 ⟨"LinkHarbour$LibraryTable", "openOne", "(IZ)I"⟩ ∈ lw_g := mG 1470 (by decide +kernel) rfl
theorem w_1471 : Cond.instanceMethod ⟨"LinkHarbour$LibraryTable", "openOne", "(IZ)I"⟩ ∈ lw_g := mG 1471 (by decide +kernel) rfl
theorem w_1472 : Cond.selects "LinkHarbour$LibraryTable" ⟨"LinkHarbour$LibraryTable", "openOne", "(IZ)I"⟩ ⟨"LinkHarbour$LibraryTable", "openOne", "(IZ)I"⟩ ∈ lw_g := mG 1472 (by decide +kernel) rfl
theorem w_1474 : Cond.methodLink "LinkHarbour$LibraryTable" 148 ⟨"LinkHarbour$LibraryTable", "load", "(I)V"⟩ ∈ lw_g := mG 1474 (by decide +kernel) rfl
theorem w_1476 : Cond.instanceMethod ⟨"LinkHarbour$LibraryTable", "load", "(I)V"⟩ ∈ lw_g := mG 1476 (by decide +kernel) rfl
theorem w_1478 : Cond.methodLink "LinkHarbour$LibraryTable" 159 ⟨"java/lang/Math", "max", "(II)I"⟩ ∈ lw_g := mG 1478 (by decide +kernel) rfl
theorem w_1480 : Cond.methodLink "LinkHarbour$LibraryTable" 152 ⟨"LinkHarbour$LibraryTable", "makeGlobal", "(I)V"⟩ ∈ lw_g := mG 1480 (by decide +kernel) rfl
theorem w_1482 : Cond.instanceMethod ⟨"LinkHarbour$LibraryTable", "makeGlobal", "(I)V"⟩ ∈ lw_g := mG 1482 (by decide +kernel) rfl
theorem w_1484 : Cond.methodLink "LinkHarbour$LibraryTable" 167 ⟨"LinkHarbour$LibraryTable", "placeAmongGlobal", "(I)I"⟩ ∈ lw_g := mG 1484 (by decide +kernel) rfl
theorem w_1485 : Cond.methodLink "LinkHarbour$LibraryTable" 155 ⟨"LinkHarbour$LibraryTable", "initialise", "(II)V"⟩ ∈ lw_g := mG 1485 (by decide +kernel) rfl
theorem w_1487 : Cond.instanceMethod ⟨"LinkHarbour$LibraryTable", "initialise", "(II)V"⟩ ∈ lw_g := mG 1487 (by decide +kernel) rfl
theorem w_1489 : Cond.methodLink "LinkHarbour$LibraryTable" 170 ⟨"LinkHarbour$LibraryTable", "lowestOf", "(I)I"⟩ ∈ lw_g := mG 1489 (by decide +kernel) rfl
theorem w_1490 : Cond.static ⟨"LinkHarbour$LibraryTable", "lowestOf", "(I)I"⟩ ∈ lw_g := mG 1490 (by decide +kernel) rfl
theorem w_1495 : Cond.methodLink "LinkHarbourLaw" 74 ⟨"LinkHarbour", "close", "(I)I"⟩ ∈ lw_g := mG 1495 (by decide +kernel) rfl
theorem w_1496 : Cond.instanceMethod ⟨"LinkHarbour", "close", "(I)I"⟩ ∈ lw_g := mG 1496 (by decide +kernel) rfl
theorem w_1497 : Cond.selects "LinkHarbour" ⟨"LinkHarbour", "close", "(I)I"⟩ ⟨"LinkHarbour", "close", "(I)I"⟩ ∈ lw_g := mG 1497 (by decide +kernel) rfl
theorem w_1500 : Cond.methodLink "LinkHarbour" 308 ⟨"LinkHarbour$LibraryTable", "closeOne", "(I)I"⟩ ∈ lw_g := mG 1500 (by decide +kernel) rfl
theorem w_1501 : Cond.instanceMethod ⟨"LinkHarbour$LibraryTable", "closeOne", "(I)I"⟩ ∈ lw_g := mG 1501 (by decide +kernel) rfl
theorem w_1502 : Cond.selects "LinkHarbour$LibraryTable" ⟨"LinkHarbour$LibraryTable", "closeOne", "(I)I"⟩ ⟨"LinkHarbour$LibraryTable", "closeOne", "(I)I"⟩ ∈ lw_g := mG 1502 (by decide +kernel) rfl
theorem w_1504 : Cond.methodLink "LinkHarbour$LibraryTable" 173 ⟨"LinkHarbour$LibraryTable", "leavingBy", "(I)I"⟩ ∈ lw_g := mG 1504 (by decide +kernel) rfl
theorem w_1505 : Cond.methodLink "LinkHarbour$LibraryTable" 176 ⟨"LinkHarbour$LibraryTable", "finish", "(I)V"⟩ ∈ lw_g := mG 1505 (by decide +kernel) rfl
theorem w_1507 : Cond.instanceMethod ⟨"LinkHarbour$LibraryTable", "finish", "(I)V"⟩ ∈ lw_g := mG 1507 (by decide +kernel) rfl
theorem w_1509 : Cond.methodLink "LinkHarbour$LibraryTable" 182 ⟨"LinkHarbour$LibraryTable", "without", "([III)I"⟩ ∈ lw_g := mG 1509 (by decide +kernel) rfl
theorem w_1510 : Cond.static ⟨"LinkHarbour$LibraryTable", "without", "([III)I"⟩ ∈ lw_g := mG 1510 (by decide +kernel) rfl
theorem w_1515 : Cond.methodLink "LinkHarbourLaw" 77 ⟨"LinkHarbour", "call", "(II)I"⟩ ∈ lw_g := mG 1515 (by decide +kernel) rfl
theorem w_1516 : Cond.instanceMethod ⟨"LinkHarbour", "call", "(II)I"⟩ ∈ lw_g := mG 1516 (by decide +kernel) rfl
theorem w_1517 : Cond.selects "LinkHarbour" ⟨"LinkHarbour", "call", "(II)I"⟩ ⟨"LinkHarbour", "call", "(II)I"⟩ ∈ lw_g := mG 1517 (by decide +kernel) rfl
theorem w_1520 : Cond.methodLink "LinkHarbour" 318 ⟨"LinkHarbour$LibraryTable", "bind", "(II)I"⟩ ∈ lw_g := mG 1520 (by decide +kernel) rfl
theorem w_1521 : Cond.instanceMethod ⟨"LinkHarbour$LibraryTable", "bind", "(II)I"⟩ ∈ lw_g := mG 1521 (by decide +kernel) rfl
theorem w_1522 : Cond.selects "LinkHarbour$LibraryTable" ⟨"LinkHarbour$LibraryTable", "bind", "(II)I"⟩ ⟨"LinkHarbour$LibraryTable", "bind", "(II)I"⟩ ∈ lw_g := mG 1522 (by decide +kernel) rfl
theorem w_1524 : Cond.methodLink "LinkHarbour$LibraryTable" 185 ⟨"LinkHarbour$LibraryTable", "firstExporter", "(II)I"⟩ ∈ lw_g := mG 1524 (by decide +kernel) rfl
theorem w_1528 : Cond.methodLink "LinkHarbourLaw" 80 ⟨"LinkHarbour", "ofBinding", "(III)I"⟩ ∈ lw_g := mG 1528 (by decide +kernel) rfl
theorem w_1532 : Cond.methodLink "LinkHarbourLaw" 84 ⟨"LinkHarbour", "ofLibrary", "(II)I"⟩ ∈ lw_g := mG 1532 (by decide +kernel) rfl
theorem w_1536 : Cond.methodLink "LinkHarbourLaw" 87 ⟨"LinkHarbour", "many", "(I)I"⟩ ∈ lw_g := mG 1536 (by decide +kernel) rfl
theorem w_1540 : Cond.methodLink "LinkHarbourLaw" 90 ⟨"LinkHarbour", "sizeWith", "(I)I"⟩ ∈ lw_g := mG 1540 (by decide +kernel) rfl
theorem w_1544 : Cond.methodLink "LinkHarbourLaw" 93 ⟨"LinkHarbour", "faultsWithout", "(I)I"⟩ ∈ lw_g := mG 1544 (by decide +kernel) rfl
theorem w_1548 : Cond.methodLink "LinkHarbourLaw" 96 ⟨"LinkHarbour", "goes", "(I)I"⟩ ∈ lw_g := mG 1548 (by decide +kernel) rfl
theorem w_1552 : Cond.methodLink "LinkHarbourLaw" 99 ⟨"LinkHarbour", "wouldBind", "(II)I"⟩ ∈ lw_g := mG 1552 (by decide +kernel) rfl
theorem w_1558 : Cond.methodLink "LinkHarbourModel" 1 ⟨"java/lang/Object", "<init>", "()V"⟩ ∈ lw_g := mG 1558 (by decide +kernel) rfl
theorem w_1559 : Cond.fieldLink "LinkHarbourModel" 81 "LinkHarbourModel" "thrown" "I" ∈ lw_g := mG 1559 (by decide +kernel) rfl
theorem w_1561 : Cond.fieldLink "LinkHarbourModel" 84 "LinkHarbourModel" "objects" "I" ∈ lw_g := mG 1561 (by decide +kernel) rfl
theorem w_1563 : Cond.fieldLink "LinkHarbourModel" 91 "LinkHarbourModel" "sections" "I" ∈ lw_g := mG 1563 (by decide +kernel) rfl
theorem w_1565 : Cond.fieldLink "LinkHarbourModel" 122 "LinkHarbourModel" "items" "I" ∈ lw_g := mG 1565 (by decide +kernel) rfl
theorem w_1566 : Cond.fieldLink "LinkHarbourModel" 9 "LinkHarbourModel" "owner" "[I" ∈ lw_g := mG 1566 (by decide +kernel) rfl
theorem w_1568 : Cond.fieldLink "LinkHarbourModel" 13 "LinkHarbourModel" "align" "[I" ∈ lw_g := mG 1568 (by decide +kernel) rfl
theorem w_1570 : Cond.fieldLink "LinkHarbourModel" 16 "LinkHarbourModel" "pieces" "[I" ∈ lw_g := mG 1570 (by decide +kernel) rfl
theorem w_1572 : Cond.fieldLink "LinkHarbourModel" 19 "LinkHarbourModel" "isKept" "[Z" ∈ lw_g := mG 1572 (by decide +kernel) rfl
theorem w_1574 : Cond.fieldLink "LinkHarbourModel" 23 "LinkHarbourModel" "piece" "[I" ∈ lw_g := mG 1574 (by decide +kernel) rfl
theorem w_1576 : Cond.fieldLink "LinkHarbourModel" 26 "LinkHarbourModel" "defined" "[I" ∈ lw_g := mG 1576 (by decide +kernel) rfl
theorem w_1578 : Cond.fieldLink "LinkHarbourModel" 29 "LinkHarbourModel" "where" "[I" ∈ lw_g := mG 1578 (by decide +kernel) rfl
theorem w_1580 : Cond.fieldLink "LinkHarbourModel" 32 "LinkHarbourModel" "ahead" "[I" ∈ lw_g := mG 1580 (by decide +kernel) rfl
theorem w_1582 : Cond.fieldLink "LinkHarbourModel" 35 "LinkHarbourModel" "isHidden" "[Z" ∈ lw_g := mG 1582 (by decide +kernel) rfl
theorem w_1584 : Cond.fieldLink "LinkHarbourModel" 38 "LinkHarbourModel" "itemSet" "[I" ∈ lw_g := mG 1584 (by decide +kernel) rfl
theorem w_1586 : Cond.fieldLink "LinkHarbourModel" 41 "LinkHarbourModel" "itemKind" "[I" ∈ lw_g := mG 1586 (by decide +kernel) rfl
theorem w_1588 : Cond.fieldLink "LinkHarbourModel" 44 "LinkHarbourModel" "reach" "I" ∈ lw_g := mG 1588 (by decide +kernel) rfl
theorem w_1589 : Cond.fieldLink "LinkHarbourModel" 48 "LinkHarbourModel" "limit" "I" ∈ lw_g := mG 1589 (by decide +kernel) rfl
theorem w_1590 : Cond.fieldLink "LinkHarbourModel" 135 "LinkHarbourModel" "wasLinked" "Z" ∈ lw_g := mG 1590 (by decide +kernel) rfl
theorem w_1591 : Cond.fieldLink "LinkHarbourModel" 139 "LinkHarbourModel" "latest" "LLinkHarbourModel$Linked;" ∈ lw_g := mG 1591 (by decide +kernel) rfl
theorem w_1592 : Cond.fieldLink "LinkHarbourModel" 51 "LinkHarbourModel" "longs" "[I" ∈ lw_g := mG 1592 (by decide +kernel) rfl
theorem w_1593 : Cond.fieldLink "LinkHarbourModel" 188 "LinkHarbourModel" "libraries" "I" ∈ lw_g := mG 1593 (by decide +kernel) rfl
theorem w_1594 : Cond.fieldLink "LinkHarbourModel" 54 "LinkHarbourModel" "sizes" "[I" ∈ lw_g := mG 1594 (by decide +kernel) rfl
theorem w_1595 : Cond.fieldLink "LinkHarbourModel" 57 "LinkHarbourModel" "needs" "[I" ∈ lw_g := mG 1595 (by decide +kernel) rfl
theorem w_1596 : Cond.fieldLink "LinkHarbourModel" 60 "LinkHarbourModel" "imports" "[I" ∈ lw_g := mG 1596 (by decide +kernel) rfl
theorem w_1597 : Cond.fieldLink "LinkHarbourModel" 63 "LinkHarbourModel" "counts" "[I" ∈ lw_g := mG 1597 (by decide +kernel) rfl
theorem w_1598 : Cond.fieldLink "LinkHarbourModel" 66 "LinkHarbourModel" "bases" "[I" ∈ lw_g := mG 1598 (by decide +kernel) rfl
theorem w_1599 : Cond.fieldLink "LinkHarbourModel" 69 "LinkHarbourModel" "exported" "[I" ∈ lw_g := mG 1599 (by decide +kernel) rfl
theorem w_1600 : Cond.fieldLink "LinkHarbourModel" 72 "LinkHarbourModel" "bound" "[I" ∈ lw_g := mG 1600 (by decide +kernel) rfl
theorem w_1601 : Cond.fieldLink "LinkHarbourModel" 75 "LinkHarbourModel" "global" "[I" ∈ lw_g := mG 1601 (by decide +kernel) rfl
theorem w_1602 : Cond.fieldLink "LinkHarbourModel" 78 "LinkHarbourModel" "started" "[I" ∈ lw_g := mG 1602 (by decide +kernel) rfl
theorem w_1603 : Cond.lays "LinkHarbourModel" "LinkHarbourModel" "thrown" "I" ∈ lw_g := mG 1603 (by decide +kernel) rfl
theorem w_1605 : Cond.lays "LinkHarbourModel" "LinkHarbourModel" "objects" "I" ∈ lw_g := mG 1605 (by decide +kernel) rfl
theorem w_1607 : Cond.lays "LinkHarbourModel" "LinkHarbourModel" "sections" "I" ∈ lw_g := mG 1607 (by decide +kernel) rfl
theorem w_1609 : Cond.lays "LinkHarbourModel" "LinkHarbourModel" "items" "I" ∈ lw_g := mG 1609 (by decide +kernel) rfl
theorem w_1611 : Cond.laysFinal "LinkHarbourModel" "LinkHarbourModel" "owner" "[I" ∈ lw_g := mG 1611 (by decide +kernel) rfl
theorem w_1613 : Cond.laysFinal "LinkHarbourModel" "LinkHarbourModel" "align" "[I" ∈ lw_g := mG 1613 (by decide +kernel) rfl
theorem w_1615 : Cond.laysFinal "LinkHarbourModel" "LinkHarbourModel" "pieces" "[I" ∈ lw_g := mG 1615 (by decide +kernel) rfl
theorem w_1617 : Cond.laysFinal "LinkHarbourModel" "LinkHarbourModel" "isKept" "[Z" ∈ lw_g := mG 1617 (by decide +kernel) rfl
theorem w_1619 : Cond.laysFinal "LinkHarbourModel" "LinkHarbourModel" "piece" "[I" ∈ lw_g := mG 1619 (by decide +kernel) rfl
theorem w_1621 : Cond.laysFinal "LinkHarbourModel" "LinkHarbourModel" "defined" "[I" ∈ lw_g := mG 1621 (by decide +kernel) rfl
theorem w_1623 : Cond.laysFinal "LinkHarbourModel" "LinkHarbourModel" "where" "[I" ∈ lw_g := mG 1623 (by decide +kernel) rfl
theorem w_1625 : Cond.laysFinal "LinkHarbourModel" "LinkHarbourModel" "ahead" "[I" ∈ lw_g := mG 1625 (by decide +kernel) rfl
theorem w_1627 : Cond.laysFinal "LinkHarbourModel" "LinkHarbourModel" "isHidden" "[Z" ∈ lw_g := mG 1627 (by decide +kernel) rfl
theorem w_1629 : Cond.laysFinal "LinkHarbourModel" "LinkHarbourModel" "itemSet" "[I" ∈ lw_g := mG 1629 (by decide +kernel) rfl
theorem w_1631 : Cond.laysFinal "LinkHarbourModel" "LinkHarbourModel" "itemKind" "[I" ∈ lw_g := mG 1631 (by decide +kernel) rfl
theorem w_1633 : Cond.lays "LinkHarbourModel" "LinkHarbourModel" "reach" "I" ∈ lw_g := mG 1633 (by decide +kernel) rfl
theorem w_1635 : Cond.lays "LinkHarbourModel" "LinkHarbourModel" "limit" "I" ∈ lw_g := mG 1635 (by decide +kernel) rfl
theorem w_1637 : Cond.lays "LinkHarbourModel" "LinkHarbourModel" "wasLinked" "Z" ∈ lw_g := mG 1637 (by decide +kernel) rfl
theorem w_1639 : Cond.lays "LinkHarbourModel" "LinkHarbourModel" "latest" "LLinkHarbourModel$Linked;" ∈ lw_g := mG 1639 (by decide +kernel) rfl
theorem w_1641 : Cond.laysFinal "LinkHarbourModel" "LinkHarbourModel" "longs" "[I" ∈ lw_g := mG 1641 (by decide +kernel) rfl
theorem w_1643 : Cond.lays "LinkHarbourModel" "LinkHarbourModel" "libraries" "I" ∈ lw_g := mG 1643 (by decide +kernel) rfl
theorem w_1645 : Cond.laysFinal "LinkHarbourModel" "LinkHarbourModel" "sizes" "[I" ∈ lw_g := mG 1645 (by decide +kernel) rfl
theorem w_1647 : Cond.laysFinal "LinkHarbourModel" "LinkHarbourModel" "needs" "[I" ∈ lw_g := mG 1647 (by decide +kernel) rfl
theorem w_1649 : Cond.laysFinal "LinkHarbourModel" "LinkHarbourModel" "imports" "[I" ∈ lw_g := mG 1649 (by decide +kernel) rfl
theorem w_1651 : Cond.laysFinal "LinkHarbourModel" "LinkHarbourModel" "counts" "[I" ∈ lw_g := mG 1651 (by decide +kernel) rfl
theorem w_1653 : Cond.laysFinal "LinkHarbourModel" "LinkHarbourModel" "bases" "[I" ∈ lw_g := mG 1653 (by decide +kernel) rfl
theorem w_1655 : Cond.laysFinal "LinkHarbourModel" "LinkHarbourModel" "exported" "[I" ∈ lw_g := mG 1655 (by decide +kernel) rfl
theorem w_1657 : Cond.laysFinal "LinkHarbourModel" "LinkHarbourModel" "bound" "[I" ∈ lw_g := mG 1657 (by decide +kernel) rfl
theorem w_1659 : Cond.lays "LinkHarbourModel" "LinkHarbourModel" "global" "[I" ∈ lw_g := mG 1659 (by decide +kernel) rfl
theorem w_1661 : Cond.lays "LinkHarbourModel" "LinkHarbourModel" "started" "[I" ∈ lw_g := mG 1661 (by decide +kernel) rfl
theorem w_1672 : Cond.methodLink "LinkHarbourModel" 94 ⟨"LinkHarbourModel", "no", "(I)I"⟩ ∈ lw_g := mG 1672 (by decide +kernel) rfl
theorem w_1674 : Cond.instanceMethod ⟨"LinkHarbourModel", "no", "(I)I"⟩ ∈ lw_g := mG 1674 (by decide +kernel) rfl
theorem w_1680 : Cond.methodLink "LinkHarbourModel" 98 ⟨"LinkHarbourModel", "isObject", "(I)Z"⟩ ∈ lw_g := mG 1680 (by decide +kernel) rfl
theorem w_1682 : Cond.instanceMethod ⟨"LinkHarbourModel", "isObject", "(I)Z"⟩ ∈ lw_g := mG 1682 (by decide +kernel) rfl
theorem w_1684 : Cond.methodLink "LinkHarbourModel" 87 ⟨"LinkHarbourModel", "isIn", "(III)Z"⟩ ∈ lw_g := mG 1684 (by decide +kernel) rfl
theorem w_1685 : Cond.static ⟨"LinkHarbourModel", "isIn", "(III)Z"⟩ ∈ lw_g := mG 1685 (by decide +kernel) rfl
theorem w_1687 : Cond.methodLink "LinkHarbourModel" 102 ⟨"LinkHarbourModel", "isAlign", "(I)Z"⟩ ∈ lw_g := mG 1687 (by decide +kernel) rfl
theorem w_1688 : Cond.static ⟨"LinkHarbourModel", "isAlign", "(I)Z"⟩ ∈ lw_g := mG 1688 (by decide +kernel) rfl
theorem w_1694 : Cond.methodLink "LinkHarbourModel" 105 ⟨"LinkHarbourModel", "isSection", "(I)Z"⟩ ∈ lw_g := mG 1694 (by decide +kernel) rfl
theorem w_1696 : Cond.instanceMethod ⟨"LinkHarbourModel", "isSection", "(I)Z"⟩ ∈ lw_g := mG 1696 (by decide +kernel) rfl
theorem w_1698 : Cond.methodLink "LinkHarbourModel" 108 ⟨"LinkHarbourModel", "add", "(IIIIZ)I"⟩ ∈ lw_g := mG 1698 (by decide +kernel) rfl
theorem w_1700 : Cond.instanceMethod ⟨"LinkHarbourModel", "add", "(IIIIZ)I"⟩ ∈ lw_g := mG 1700 (by decide +kernel) rfl
theorem w_1706 : Cond.methodLink "LinkHarbourModel" 112 ⟨"LinkHarbourModel", "isName", "(I)Z"⟩ ∈ lw_g := mG 1706 (by decide +kernel) rfl
theorem w_1707 : Cond.static ⟨"LinkHarbourModel", "isName", "(I)Z"⟩ ∈ lw_g := mG 1707 (by decide +kernel) rfl
theorem w_1717 : Cond.methodLink "LinkHarbourModel" 115 ⟨"LinkHarbourModel", "defineNow", "(IIIIIZ)I"⟩ ∈ lw_g := mG 1717 (by decide +kernel) rfl
theorem w_1719 : Cond.instanceMethod ⟨"LinkHarbourModel", "defineNow", "(IIIIIZ)I"⟩ ∈ lw_g := mG 1719 (by decide +kernel) rfl
theorem w_1725 : Cond.methodLink "LinkHarbourModel" 119 ⟨"LinkHarbourModel", "definitions", "(I)I"⟩ ∈ lw_g := mG 1725 (by decide +kernel) rfl
theorem w_1727 : Cond.instanceMethod ⟨"LinkHarbourModel", "definitions", "(I)I"⟩ ∈ lw_g := mG 1727 (by decide +kernel) rfl
theorem w_1741 : Cond.methodLink "LinkHarbourModel" 148 ⟨"LinkHarbourModel", "ofObjectNow", "(II)I"⟩ ∈ lw_g := mG 1741 (by decide +kernel) rfl
theorem w_1743 : Cond.instanceMethod ⟨"LinkHarbourModel", "ofObjectNow", "(II)I"⟩ ∈ lw_g := mG 1743 (by decide +kernel) rfl
theorem w_1745 : Cond.methodLink "LinkHarbourModel" 129 ⟨"LinkHarbourModel", "sectionsOf", "(I)I"⟩ ∈ lw_g := mG 1745 (by decide +kernel) rfl
theorem w_1747 : Cond.instanceMethod ⟨"LinkHarbourModel", "sectionsOf", "(I)I"⟩ ∈ lw_g := mG 1747 (by decide +kernel) rfl
theorem w_1749 : Cond.methodLink "LinkHarbourModel" 132 ⟨"LinkHarbourModel", "itemOf", "(I)I"⟩ ∈ lw_g := mG 1749 (by decide +kernel) rfl
theorem w_1751 : Cond.instanceMethod ⟨"LinkHarbourModel", "itemOf", "(I)I"⟩ ∈ lw_g := mG 1751 (by decide +kernel) rfl
theorem w_1753 : Cond.methodLink "LinkHarbourModel" 125 ⟨"LinkHarbourModel", "has", "(II)Z"⟩ ∈ lw_g := mG 1753 (by decide +kernel) rfl
theorem w_1754 : Cond.static ⟨"LinkHarbourModel", "has", "(II)Z"⟩ ∈ lw_g := mG 1754 (by decide +kernel) rfl
theorem w_1764 : Cond.classLink "LinkHarbourModel" 144 "LinkHarbourModel$Linked" ∈ lw_g := mG 1764 (by decide +kernel) rfl
theorem w_1765 : Cond.instantiable "LinkHarbourModel$Linked" 25 ∈ lw_g := mG 1765 (by decide +kernel) rfl
theorem w_1766 : Cond.methodLink "LinkHarbourModel" 152 ⟨"LinkHarbourModel$Linked", "<init>", "(LLinkHarbourModel;IZIII)V"⟩ ∈ lw_g := mG 1766 (by decide +kernel) rfl
theorem w_1767 : Cond.instanceMethod ⟨"LinkHarbourModel$Linked", "<init>", "(LLinkHarbourModel;IZIII)V"⟩ ∈ lw_g := mG 1767 (by decide +kernel) rfl
theorem w_1769 : Cond.methodLink "LinkHarbourModel$Linked" 9 ⟨"java/lang/Object", "<init>", "()V"⟩ ∈ lw_g := mG 1769 (by decide +kernel) rfl
theorem w_1770 : Cond.methodLink "LinkHarbourModel$Linked" 79 ⟨"LinkHarbourModel$Linked", "endOf", "(I)I"⟩ ∈ lw_g := mG 1770 (by decide +kernel) rfl
theorem w_1772 : Cond.instanceMethod ⟨"LinkHarbourModel$Linked", "endOf", "(I)I"⟩ ∈ lw_g := mG 1772 (by decide +kernel) rfl
theorem w_1774 : Cond.methodLink "LinkHarbourModel$Linked" 83 ⟨"LinkHarbourModel$Linked", "take", "(III)V"⟩ ∈ lw_g := mG 1774 (by decide +kernel) rfl
theorem w_1776 : Cond.instanceMethod ⟨"LinkHarbourModel$Linked", "take", "(III)V"⟩ ∈ lw_g := mG 1776 (by decide +kernel) rfl
theorem w_1779 : Cond.methodLink "LinkHarbourModel$Linked" 113 ⟨"LinkHarbourModel$Linked", "isDrawn", "(I)Z"⟩ ∈ lw_g := mG 1779 (by decide +kernel) rfl
theorem w_1781 : Cond.instanceMethod ⟨"LinkHarbourModel$Linked", "isDrawn", "(I)Z"⟩ ∈ lw_g := mG 1781 (by decide +kernel) rfl
theorem w_1783 : Cond.methodLink "LinkHarbourModel$Linked" 123 ⟨"LinkHarbourModel$Linked", "isWanted", "(I)Z"⟩ ∈ lw_g := mG 1783 (by decide +kernel) rfl
theorem w_1785 : Cond.instanceMethod ⟨"LinkHarbourModel$Linked", "isWanted", "(I)Z"⟩ ∈ lw_g := mG 1785 (by decide +kernel) rfl
theorem w_1787 : Cond.methodLink "LinkHarbourModel$Linked" 135 ⟨"LinkHarbourModel$Linked", "nameAt", "(II)I"⟩ ∈ lw_g := mG 1787 (by decide +kernel) rfl
theorem w_1789 : Cond.instanceMethod ⟨"LinkHarbourModel$Linked", "nameAt", "(II)I"⟩ ∈ lw_g := mG 1789 (by decide +kernel) rfl
theorem w_1791 : Cond.methodLink "LinkHarbourModel$Linked" 87 ⟨"LinkHarbourModel$Linked", "settle", "(I)V"⟩ ∈ lw_g := mG 1791 (by decide +kernel) rfl
theorem w_1793 : Cond.instanceMethod ⟨"LinkHarbourModel$Linked", "settle", "(I)V"⟩ ∈ lw_g := mG 1793 (by decide +kernel) rfl
theorem w_1795 : Cond.methodLink "LinkHarbourModel$Linked" 142 ⟨"LinkHarbourModel$Linked", "firstWith", "(II)I"⟩ ∈ lw_g := mG 1795 (by decide +kernel) rfl
theorem w_1797 : Cond.instanceMethod ⟨"LinkHarbourModel$Linked", "firstWith", "(II)I"⟩ ∈ lw_g := mG 1797 (by decide +kernel) rfl
theorem w_1799 : Cond.methodLink "LinkHarbourModel$Linked" 148 ⟨"java/lang/Math", "max", "(II)I"⟩ ∈ lw_g := mG 1799 (by decide +kernel) rfl
theorem w_1800 : Cond.methodLink "LinkHarbourModel$Linked" 156 ⟨"LinkHarbourModel$Linked", "fault", "(IIII)V"⟩ ∈ lw_g := mG 1800 (by decide +kernel) rfl
theorem w_1802 : Cond.instanceMethod ⟨"LinkHarbourModel$Linked", "fault", "(IIII)V"⟩ ∈ lw_g := mG 1802 (by decide +kernel) rfl
theorem w_1804 : Cond.methodLink "LinkHarbourModel$Linked" 160 ⟨"java/lang/System", "arraycopy", "(Ljava/lang/Object;ILjava/lang/Object;II)V"⟩ ∈ lw_g := mG 1804 (by decide +kernel) rfl
theorem w_1805 : Cond.static ⟨"java/lang/System", "arraycopy", "(Ljava/lang/Object;ILjava/lang/Object;II)V"⟩ ∈ lw_g := mG 1805 (by decide +kernel) rfl
theorem w_1806 : Cond.native ⟨"java/lang/System", "arraycopy", "(Ljava/lang/Object;ILjava/lang/Object;II)V"⟩ ∈ lw_g := mG 1806 (by decide +kernel) rfl
theorem w_1807 : Cond.methodLink "LinkHarbourModel$Linked" 91 ⟨"LinkHarbourModel$Linked", "reachAll", "()V"⟩ ∈ lw_g := mG 1807 (by decide +kernel) rfl
theorem w_1809 : Cond.instanceMethod ⟨"LinkHarbourModel$Linked", "reachAll", "()V"⟩ ∈ lw_g := mG 1809 (by decide +kernel) rfl
theorem w_1811 : Cond.methodLink "LinkHarbourModel$Linked" 172 ⟨"LinkHarbourModel$Linked", "reachName", "(I)Z"⟩ ∈ lw_g := mG 1811 (by decide +kernel) rfl
theorem w_1813 : Cond.instanceMethod ⟨"LinkHarbourModel$Linked", "reachName", "(I)Z"⟩ ∈ lw_g := mG 1813 (by decide +kernel) rfl
theorem w_1815 : Cond.methodLink "LinkHarbourModel$Linked" 169 ⟨"LinkHarbourModel$Linked", "sectionOf", "(I)I"⟩ ∈ lw_g := mG 1815 (by decide +kernel) rfl
theorem w_1817 : Cond.instanceMethod ⟨"LinkHarbourModel$Linked", "sectionOf", "(I)I"⟩ ∈ lw_g := mG 1817 (by decide +kernel) rfl
theorem w_1819 : Cond.methodLink "LinkHarbourModel$Linked" 94 ⟨"LinkHarbourModel$Linked", "layOut", "()V"⟩ ∈ lw_g := mG 1819 (by decide +kernel) rfl
theorem w_1821 : Cond.instanceMethod ⟨"LinkHarbourModel$Linked", "layOut", "()V"⟩ ∈ lw_g := mG 1821 (by decide +kernel) rfl
theorem w_1823 : Cond.methodLink "LinkHarbourModel$Linked" 199 ⟨"LinkHarbourModel$Linked", "place", "()V"⟩ ∈ lw_g := mG 1823 (by decide +kernel) rfl
theorem w_1825 : Cond.instanceMethod ⟨"LinkHarbourModel$Linked", "place", "()V"⟩ ∈ lw_g := mG 1825 (by decide +kernel) rfl
theorem w_1827 : Cond.methodLink "LinkHarbourModel$Linked" 190 ⟨"LinkHarbourModel$Linked", "next", "(II)I"⟩ ∈ lw_g := mG 1827 (by decide +kernel) rfl
theorem w_1828 : Cond.static ⟨"LinkHarbourModel$Linked", "next", "(II)I"⟩ ∈ lw_g := mG 1828 (by decide +kernel) rfl
theorem w_1830 : Cond.methodLink "LinkHarbourModel$Linked" 193 ⟨"LinkHarbourModel$Linked", "wordsUpTo", "(II)I"⟩ ∈ lw_g := mG 1830 (by decide +kernel) rfl
theorem w_1832 : Cond.instanceMethod ⟨"LinkHarbourModel$Linked", "wordsUpTo", "(II)I"⟩ ∈ lw_g := mG 1832 (by decide +kernel) rfl
theorem w_1834 : Cond.methodLink "LinkHarbourModel$Linked" 181 ⟨"LinkHarbourModel$Linked", "wordsOf", "(II)I"⟩ ∈ lw_g := mG 1834 (by decide +kernel) rfl
theorem w_1836 : Cond.instanceMethod ⟨"LinkHarbourModel$Linked", "wordsOf", "(II)I"⟩ ∈ lw_g := mG 1836 (by decide +kernel) rfl
theorem w_1838 : Cond.methodLink "LinkHarbourModel$Linked" 202 ⟨"LinkHarbourModel$Linked", "standsFor", "(I)I"⟩ ∈ lw_g := mG 1838 (by decide +kernel) rfl
theorem w_1840 : Cond.instanceMethod ⟨"LinkHarbourModel$Linked", "standsFor", "(I)I"⟩ ∈ lw_g := mG 1840 (by decide +kernel) rfl
theorem w_1842 : Cond.methodLink "LinkHarbourModel$Linked" 205 ⟨"java/lang/Math", "abs", "(I)I"⟩ ∈ lw_g := mG 1842 (by decide +kernel) rfl
theorem w_1843 : Cond.methodLink "LinkHarbourModel$Linked" 97 ⟨"LinkHarbourModel$Linked", "write", "()V"⟩ ∈ lw_g := mG 1843 (by decide +kernel) rfl
theorem w_1845 : Cond.instanceMethod ⟨"LinkHarbourModel$Linked", "write", "()V"⟩ ∈ lw_g := mG 1845 (by decide +kernel) rfl
theorem w_1847 : Cond.methodLink "LinkHarbourModel$Linked" 208 ⟨"LinkHarbourModel$Linked", "writePiece", "(III)V"⟩ ∈ lw_g := mG 1847 (by decide +kernel) rfl
theorem w_1849 : Cond.instanceMethod ⟨"LinkHarbourModel$Linked", "writePiece", "(III)V"⟩ ∈ lw_g := mG 1849 (by decide +kernel) rfl
theorem w_1852 : Cond.fieldLink "LinkHarbourModel$Linked" 62 "LinkHarbourModel$Linked" "entry" "I" ∈ lw_g := mG 1852 (by decide +kernel) rfl
theorem w_1854 : Cond.fieldLink "LinkHarbourModel$Linked" 70 "LinkHarbourModel$Linked" "bound" "I" ∈ lw_g := mG 1854 (by decide +kernel) rfl
theorem w_1855 : Cond.fieldLink "LinkHarbourModel$Linked" 73 "LinkHarbourModel$Linked" "most" "I" ∈ lw_g := mG 1855 (by decide +kernel) rfl
theorem w_1856 : Cond.fieldLink "LinkHarbourModel$Linked" 66 "LinkHarbourModel$Linked" "isShared" "Z" ∈ lw_g := mG 1856 (by decide +kernel) rfl
theorem w_1858 : Cond.fieldLink "LinkHarbourModel$Linked" 117 "LinkHarbourModel$Linked" "taken" "I" ∈ lw_g := mG 1858 (by decide +kernel) rfl
theorem w_1860 : Cond.fieldLink "LinkHarbourModel$Linked" 15 "LinkHarbourModel$Linked" "order" "[I" ∈ lw_g := mG 1860 (by decide +kernel) rfl
theorem w_1861 : Cond.fieldLink "LinkHarbourModel$Linked" 19 "LinkHarbourModel$Linked" "takenAs" "[I" ∈ lw_g := mG 1861 (by decide +kernel) rfl
theorem w_1863 : Cond.fieldLink "LinkHarbourModel$Linked" 22 "LinkHarbourModel$Linked" "kindOf" "[I" ∈ lw_g := mG 1863 (by decide +kernel) rfl
theorem w_1864 : Cond.fieldLink "LinkHarbourModel$Linked" 25 "LinkHarbourModel$Linked" "objectOf" "[I" ∈ lw_g := mG 1864 (by decide +kernel) rfl
theorem w_1866 : Cond.fieldLink "LinkHarbourModel$Linked" 28 "LinkHarbourModel$Linked" "sizeOf" "[I" ∈ lw_g := mG 1866 (by decide +kernel) rfl
theorem w_1867 : Cond.fieldLink "LinkHarbourModel$Linked" 31 "LinkHarbourModel$Linked" "alignOf" "[I" ∈ lw_g := mG 1867 (by decide +kernel) rfl
theorem w_1868 : Cond.fieldLink "LinkHarbourModel$Linked" 34 "LinkHarbourModel$Linked" "addressOf" "[I" ∈ lw_g := mG 1868 (by decide +kernel) rfl
theorem w_1870 : Cond.fieldLink "LinkHarbourModel$Linked" 37 "LinkHarbourModel$Linked" "references" "[I" ∈ lw_g := mG 1870 (by decide +kernel) rfl
theorem w_1871 : Cond.fieldLink "LinkHarbourModel$Linked" 40 "LinkHarbourModel$Linked" "isReachedName" "[Z" ∈ lw_g := mG 1871 (by decide +kernel) rfl
theorem w_1872 : Cond.fieldLink "LinkHarbourModel$Linked" 44 "LinkHarbourModel$Linked" "isReached" "[Z" ∈ lw_g := mG 1872 (by decide +kernel) rfl
theorem w_1874 : Cond.fieldLink "LinkHarbourModel$Linked" 47 "LinkHarbourModel$Linked" "address" "[I" ∈ lw_g := mG 1874 (by decide +kernel) rfl
theorem w_1876 : Cond.fieldLink "LinkHarbourModel$Linked" 50 "LinkHarbourModel$Linked" "length" "[I" ∈ lw_g := mG 1876 (by decide +kernel) rfl
theorem w_1878 : Cond.fieldLink "LinkHarbourModel$Linked" 53 "LinkHarbourModel$Linked" "isLong" "[Z" ∈ lw_g := mG 1878 (by decide +kernel) rfl
theorem w_1879 : Cond.fieldLink "LinkHarbourModel$Linked" 211 "LinkHarbourModel$Linked" "imports" "I" ∈ lw_g := mG 1879 (by decide +kernel) rfl
theorem w_1881 : Cond.fieldLink "LinkHarbourModel$Linked" 196 "LinkHarbourModel$Linked" "size" "I" ∈ lw_g := mG 1881 (by decide +kernel) rfl
theorem w_1883 : Cond.fieldLink "LinkHarbourModel$Linked" 184 "LinkHarbourModel$Linked" "used" "I" ∈ lw_g := mG 1883 (by decide +kernel) rfl
theorem w_1885 : Cond.fieldLink "LinkHarbourModel$Linked" 166 "LinkHarbourModel$Linked" "many" "I" ∈ lw_g := mG 1885 (by decide +kernel) rfl
theorem w_1887 : Cond.fieldLink "LinkHarbourModel$Linked" 56 "LinkHarbourModel$Linked" "faults" "[I" ∈ lw_g := mG 1887 (by decide +kernel) rfl
theorem w_1889 : Cond.fieldLink "LinkHarbourModel$Linked" 59 "LinkHarbourModel$Linked" "words" "[I" ∈ lw_g := mG 1889 (by decide +kernel) rfl
theorem w_1891 : Cond.fieldLink "LinkHarbourModel$Linked" 3 "LinkHarbourModel$Linked" "this$0" "LLinkHarbourModel;" ∈ lw_g := mG 1891 (by decide +kernel) rfl
theorem w_1892 : Cond.laysFinal "LinkHarbourModel$Linked" "LinkHarbourModel$Linked" "entry" "I" ∈ lw_g := mG 1892 (by decide +kernel) rfl
theorem w_1894 : Cond.laysFinal "LinkHarbourModel$Linked" "LinkHarbourModel$Linked" "bound" "I" ∈ lw_g := mG 1894 (by decide +kernel) rfl
theorem w_1896 : Cond.laysFinal "LinkHarbourModel$Linked" "LinkHarbourModel$Linked" "most" "I" ∈ lw_g := mG 1896 (by decide +kernel) rfl
theorem w_1898 : Cond.laysFinal "LinkHarbourModel$Linked" "LinkHarbourModel$Linked" "isShared" "Z" ∈ lw_g := mG 1898 (by decide +kernel) rfl
theorem w_1900 : Cond.lays "LinkHarbourModel$Linked" "LinkHarbourModel$Linked" "taken" "I" ∈ lw_g := mG 1900 (by decide +kernel) rfl
theorem w_1902 : Cond.laysFinal "LinkHarbourModel$Linked" "LinkHarbourModel$Linked" "order" "[I" ∈ lw_g := mG 1902 (by decide +kernel) rfl
theorem w_1904 : Cond.laysFinal "LinkHarbourModel$Linked" "LinkHarbourModel$Linked" "takenAs" "[I" ∈ lw_g := mG 1904 (by decide +kernel) rfl
theorem w_1906 : Cond.laysFinal "LinkHarbourModel$Linked" "LinkHarbourModel$Linked" "kindOf" "[I" ∈ lw_g := mG 1906 (by decide +kernel) rfl
theorem w_1908 : Cond.laysFinal "LinkHarbourModel$Linked" "LinkHarbourModel$Linked" "objectOf" "[I" ∈ lw_g := mG 1908 (by decide +kernel) rfl
theorem w_1910 : Cond.laysFinal "LinkHarbourModel$Linked" "LinkHarbourModel$Linked" "sizeOf" "[I" ∈ lw_g := mG 1910 (by decide +kernel) rfl
theorem w_1912 : Cond.laysFinal "LinkHarbourModel$Linked" "LinkHarbourModel$Linked" "alignOf" "[I" ∈ lw_g := mG 1912 (by decide +kernel) rfl
theorem w_1914 : Cond.laysFinal "LinkHarbourModel$Linked" "LinkHarbourModel$Linked" "addressOf" "[I" ∈ lw_g := mG 1914 (by decide +kernel) rfl
theorem w_1916 : Cond.laysFinal "LinkHarbourModel$Linked" "LinkHarbourModel$Linked" "references" "[I" ∈ lw_g := mG 1916 (by decide +kernel) rfl
theorem w_1918 : Cond.laysFinal "LinkHarbourModel$Linked" "LinkHarbourModel$Linked" "isReachedName" "[Z" ∈ lw_g := mG 1918 (by decide +kernel) rfl
theorem w_1920 : Cond.laysFinal "LinkHarbourModel$Linked" "LinkHarbourModel$Linked" "isReached" "[Z" ∈ lw_g := mG 1920 (by decide +kernel) rfl
theorem w_1922 : Cond.laysFinal "LinkHarbourModel$Linked" "LinkHarbourModel$Linked" "address" "[I" ∈ lw_g := mG 1922 (by decide +kernel) rfl
theorem w_1924 : Cond.laysFinal "LinkHarbourModel$Linked" "LinkHarbourModel$Linked" "length" "[I" ∈ lw_g := mG 1924 (by decide +kernel) rfl
theorem w_1926 : Cond.laysFinal "LinkHarbourModel$Linked" "LinkHarbourModel$Linked" "isLong" "[Z" ∈ lw_g := mG 1926 (by decide +kernel) rfl
theorem w_1928 : Cond.lays "LinkHarbourModel$Linked" "LinkHarbourModel$Linked" "imports" "I" ∈ lw_g := mG 1928 (by decide +kernel) rfl
theorem w_1930 : Cond.lays "LinkHarbourModel$Linked" "LinkHarbourModel$Linked" "size" "I" ∈ lw_g := mG 1930 (by decide +kernel) rfl
theorem w_1932 : Cond.lays "LinkHarbourModel$Linked" "LinkHarbourModel$Linked" "used" "I" ∈ lw_g := mG 1932 (by decide +kernel) rfl
theorem w_1934 : Cond.lays "LinkHarbourModel$Linked" "LinkHarbourModel$Linked" "many" "I" ∈ lw_g := mG 1934 (by decide +kernel) rfl
theorem w_1936 : Cond.lays "LinkHarbourModel$Linked" "LinkHarbourModel$Linked" "faults" "[I" ∈ lw_g := mG 1936 (by decide +kernel) rfl
theorem w_1938 : Cond.lays "LinkHarbourModel$Linked" "LinkHarbourModel$Linked" "words" "[I" ∈ lw_g := mG 1938 (by decide +kernel) rfl
theorem w_1940 : Cond.laysFinal "LinkHarbourModel$Linked" "LinkHarbourModel$Linked" "this$0" "LLinkHarbourModel;" ∈ lw_g := mG 1940 (by decide +kernel) rfl
theorem w_1945 : Cond.instanceMethod ⟨"LinkHarbourModel$Linked", "longOf", "(I)I"⟩ ∈ lw_g := mG 1945 (by decide +kernel) rfl
theorem w_1951 : Cond.methodLink "LinkHarbourModel" 170 ⟨"LinkHarbourModel", "ofSectionNow", "(II)I"⟩ ∈ lw_g := mG 1951 (by decide +kernel) rfl
theorem w_1953 : Cond.instanceMethod ⟨"LinkHarbourModel", "ofSectionNow", "(II)I"⟩ ∈ lw_g := mG 1953 (by decide +kernel) rfl
theorem w_1959 : Cond.methodLink "LinkHarbourModel" 176 ⟨"LinkHarbourModel", "ofNameNow", "(II)I"⟩ ∈ lw_g := mG 1959 (by decide +kernel) rfl
theorem w_1961 : Cond.instanceMethod ⟨"LinkHarbourModel", "ofNameNow", "(II)I"⟩ ∈ lw_g := mG 1961 (by decide +kernel) rfl
theorem w_1965 : Cond.instanceMethod ⟨"LinkHarbourModel$Linked", "ofName", "(II)I"⟩ ∈ lw_g := mG 1965 (by decide +kernel) rfl
theorem w_1983 : Cond.methodLink "LinkHarbourModel" 223 ⟨"LinkHarbourModel", "isLibrary", "(I)Z"⟩ ∈ lw_g := mG 1983 (by decide +kernel) rfl
theorem w_1985 : Cond.instanceMethod ⟨"LinkHarbourModel", "isLibrary", "(I)Z"⟩ ∈ lw_g := mG 1985 (by decide +kernel) rfl
theorem w_1987 : Cond.methodLink "LinkHarbourModel" 226 ⟨"LinkHarbourModel", "rowOf", "(I)[I"⟩ ∈ lw_g := mG 1987 (by decide +kernel) rfl
theorem w_1989 : Cond.instanceMethod ⟨"LinkHarbourModel", "rowOf", "(I)[I"⟩ ∈ lw_g := mG 1989 (by decide +kernel) rfl
theorem w_1991 : Cond.methodLink "LinkHarbourModel" 212 ⟨"LinkHarbourModel", "placeIn", "([II)I"⟩ ∈ lw_g := mG 1991 (by decide +kernel) rfl
theorem w_1992 : Cond.static ⟨"LinkHarbourModel", "placeIn", "([II)I"⟩ ∈ lw_g := mG 1992 (by decide +kernel) rfl
theorem w_1994 : Cond.methodLink "LinkHarbourModel" 208 ⟨"LinkHarbourModel", "plus", "([II)[I"⟩ ∈ lw_g := mG 1994 (by decide +kernel) rfl
theorem w_1995 : Cond.static ⟨"LinkHarbourModel", "plus", "([II)[I"⟩ ∈ lw_g := mG 1995 (by decide +kernel) rfl
theorem w_1997 : Cond.methodLink "LinkHarbourModel" 202 ⟨"java/lang/System", "arraycopy", "(Ljava/lang/Object;ILjava/lang/Object;II)V"⟩ ∈ lw_g := mG 1997 (by decide +kernel) rfl
theorem w_1998 : Cond.methodLink "LinkHarbourModel" 216 ⟨"LinkHarbourModel", "isLoaded", "(I)Z"⟩ ∈ lw_g := mG 1998 (by decide +kernel) rfl
theorem w_2000 : Cond.instanceMethod ⟨"LinkHarbourModel", "isLoaded", "(I)Z"⟩ ∈ lw_g := mG 2000 (by decide +kernel) rfl
theorem w_2002 : Cond.methodLink "LinkHarbourModel" 230 ⟨"LinkHarbourModel", "baseNow", "()I"⟩ ∈ lw_g := mG 2002 (by decide +kernel) rfl
theorem w_2004 : Cond.instanceMethod ⟨"LinkHarbourModel", "baseNow", "()I"⟩ ∈ lw_g := mG 2004 (by decide +kernel) rfl
theorem w_2006 : Cond.methodLink "LinkHarbourModel" 219 ⟨"LinkHarbourModel", "go", "(III)I"⟩ ∈ lw_g := mG 2006 (by decide +kernel) rfl
theorem w_2008 : Cond.instanceMethod ⟨"LinkHarbourModel", "go", "(III)I"⟩ ∈ lw_g := mG 2008 (by decide +kernel) rfl
theorem w_2014 : Cond.methodLink "LinkHarbourModel" 234 ⟨"LinkHarbourModel", "goesNow", "(I)I"⟩ ∈ lw_g := mG 2014 (by decide +kernel) rfl
theorem w_2016 : Cond.instanceMethod ⟨"LinkHarbourModel", "goesNow", "(I)I"⟩ ∈ lw_g := mG 2016 (by decide +kernel) rfl
theorem w_2018 : Cond.methodLink "LinkHarbourModel" 237 ⟨"LinkHarbourModel", "without", "([II)[I"⟩ ∈ lw_g := mG 2018 (by decide +kernel) rfl
theorem w_2019 : Cond.static ⟨"LinkHarbourModel", "without", "([II)[I"⟩ ∈ lw_g := mG 2019 (by decide +kernel) rfl
theorem w_2025 : Cond.methodLink "LinkHarbourModel" 240 ⟨"LinkHarbourModel", "canCall", "(II)Z"⟩ ∈ lw_g := mG 2025 (by decide +kernel) rfl
theorem w_2027 : Cond.instanceMethod ⟨"LinkHarbourModel", "canCall", "(II)Z"⟩ ∈ lw_g := mG 2027 (by decide +kernel) rfl
theorem w_2029 : Cond.methodLink "LinkHarbourModel" 243 ⟨"LinkHarbourModel", "find", "(II)I"⟩ ∈ lw_g := mG 2029 (by decide +kernel) rfl
theorem w_2031 : Cond.instanceMethod ⟨"LinkHarbourModel", "find", "(II)I"⟩ ∈ lw_g := mG 2031 (by decide +kernel) rfl
theorem w_2037 : Cond.methodLink "LinkHarbourModel" 246 ⟨"LinkHarbourModel", "ofBindingNow", "(III)I"⟩ ∈ lw_g := mG 2037 (by decide +kernel) rfl
theorem w_2039 : Cond.instanceMethod ⟨"LinkHarbourModel", "ofBindingNow", "(III)I"⟩ ∈ lw_g := mG 2039 (by decide +kernel) rfl
theorem w_2045 : Cond.methodLink "LinkHarbourModel" 255 ⟨"LinkHarbourModel", "ofLibraryNow", "(II)I"⟩ ∈ lw_g := mG 2045 (by decide +kernel) rfl
theorem w_2047 : Cond.instanceMethod ⟨"LinkHarbourModel", "ofLibraryNow", "(II)I"⟩ ∈ lw_g := mG 2047 (by decide +kernel) rfl
theorem w_2049 : Cond.methodLink "LinkHarbourModel" 249 ⟨"LinkHarbourModel", "exports", "(I)I"⟩ ∈ lw_g := mG 2049 (by decide +kernel) rfl
theorem w_2051 : Cond.instanceMethod ⟨"LinkHarbourModel", "exports", "(I)I"⟩ ∈ lw_g := mG 2051 (by decide +kernel) rfl
theorem w_2053 : Cond.methodLink "LinkHarbourModel" 252 ⟨"LinkHarbourModel", "bits", "(I)I"⟩ ∈ lw_g := mG 2053 (by decide +kernel) rfl
theorem w_2054 : Cond.static ⟨"LinkHarbourModel", "bits", "(I)I"⟩ ∈ lw_g := mG 2054 (by decide +kernel) rfl
theorem w_2060 : Cond.methodLink "LinkHarbourModel" 267 ⟨"LinkHarbourModel", "manyNow", "(I)I"⟩ ∈ lw_g := mG 2060 (by decide +kernel) rfl
theorem w_2062 : Cond.instanceMethod ⟨"LinkHarbourModel", "manyNow", "(I)I"⟩ ∈ lw_g := mG 2062 (by decide +kernel) rfl
theorem w_2066 : Cond.instanceMethod ⟨"LinkHarbourModel$Linked", "reachedSections", "()I"⟩ ∈ lw_g := mG 2066 (by decide +kernel) rfl
theorem w_2070 : Cond.instanceMethod ⟨"LinkHarbourModel$Linked", "allLong", "()I"⟩ ∈ lw_g := mG 2070 (by decide +kernel) rfl
theorem w_2092 : Cond.methodLink "LinkHarbourModel" 276 ⟨"LinkHarbourModel", "wouldBindNow", "(II)I"⟩ ∈ lw_g := mG 2092 (by decide +kernel) rfl
theorem w_2094 : Cond.instanceMethod ⟨"LinkHarbourModel", "wouldBindNow", "(II)I"⟩ ∈ lw_g := mG 2094 (by decide +kernel) rfl
theorem w_2100 : Cond.constantLong "LinkHarbourModel" 279 (58133) ∈ lw_g := mG 2100 (by decide +kernel) rfl
theorem w_2101 : Cond.constantLong "LinkHarbourModel" 281 (31) ∈ lw_g := mG 2101 (by decide +kernel) rfl
theorem w_obj : Cond.code objectInit ⟨#[0xb1]⟩ 1 none ∈ lw_g := mG 114 (by decide +kernel) rfl
theorem inGX0 : ∀ w ∈ u_ws RX0 TX0 2, w ∈ lw_g := List.forall_mem_cons.mpr ⟨w_283, List.forall_mem_cons.mpr ⟨w_285, fun _ h => absurd h List.not_mem_nil⟩⟩
theorem inGX1 : ∀ w ∈ u_ws RX1 TX1 1, w ∈ lw_g := List.forall_mem_cons.mpr ⟨w_266, fun _ h => absurd h List.not_mem_nil⟩
theorem inGX2 : ∀ w ∈ u_ws RX2 TX2 3, w ∈ lw_g := List.forall_mem_cons.mpr ⟨w_197, List.forall_mem_cons.mpr ⟨w_199, List.forall_mem_cons.mpr ⟨w_201, fun _ h => absurd h List.not_mem_nil⟩⟩⟩
theorem inGX3 : ∀ w ∈ u_ws RX3 TX3 13, w ∈ lw_g := List.forall_mem_cons.mpr ⟨w_410, List.forall_mem_cons.mpr ⟨w_412, List.forall_mem_cons.mpr ⟨w_414, List.forall_mem_cons.mpr ⟨w_416, List.forall_mem_cons.mpr ⟨w_418, List.forall_mem_cons.mpr ⟨w_420, List.forall_mem_cons.mpr ⟨w_422, List.forall_mem_cons.mpr ⟨w_424, List.forall_mem_cons.mpr ⟨w_426, List.forall_mem_cons.mpr ⟨w_428, List.forall_mem_cons.mpr ⟨w_430, List.forall_mem_cons.mpr ⟨w_432, List.forall_mem_cons.mpr ⟨w_434, fun _ h => absurd h List.not_mem_nil⟩⟩⟩⟩⟩⟩⟩⟩⟩⟩⟩⟩⟩
theorem inGX4 : ∀ w ∈ u_ws RX4 TX4 16, w ∈ lw_g := List.forall_mem_cons.mpr ⟨w_226, List.forall_mem_cons.mpr ⟨w_228, List.forall_mem_cons.mpr ⟨w_230, List.forall_mem_cons.mpr ⟨w_232, List.forall_mem_cons.mpr ⟨w_234, List.forall_mem_cons.mpr ⟨w_236, List.forall_mem_cons.mpr ⟨w_238, List.forall_mem_cons.mpr ⟨w_240, List.forall_mem_cons.mpr ⟨w_242, List.forall_mem_cons.mpr ⟨w_244, List.forall_mem_cons.mpr ⟨w_246, List.forall_mem_cons.mpr ⟨w_248, List.forall_mem_cons.mpr ⟨w_250, List.forall_mem_cons.mpr ⟨w_252, List.forall_mem_cons.mpr ⟨w_254, List.forall_mem_cons.mpr ⟨w_256, fun _ h => absurd h List.not_mem_nil⟩⟩⟩⟩⟩⟩⟩⟩⟩⟩⟩⟩⟩⟩⟩⟩
theorem inGX5 : ∀ w ∈ u_ws RX5 TX5 9, w ∈ lw_g := List.forall_mem_cons.mpr ⟨w_454, List.forall_mem_cons.mpr ⟨w_456, List.forall_mem_cons.mpr ⟨w_458, List.forall_mem_cons.mpr ⟨w_460, List.forall_mem_cons.mpr ⟨w_462, List.forall_mem_cons.mpr ⟨w_464, List.forall_mem_cons.mpr ⟨w_466, List.forall_mem_cons.mpr ⟨w_468, List.forall_mem_cons.mpr ⟨w_470, fun _ h => absurd h List.not_mem_nil⟩⟩⟩⟩⟩⟩⟩⟩⟩
theorem inGX6 : ∀ w ∈ u_ws RX6 TX6 10, w ∈ lw_g := List.forall_mem_cons.mpr ⟨w_131, List.forall_mem_cons.mpr ⟨w_133, List.forall_mem_cons.mpr ⟨w_135, List.forall_mem_cons.mpr ⟨w_137, List.forall_mem_cons.mpr ⟨w_139, List.forall_mem_cons.mpr ⟨w_141, List.forall_mem_cons.mpr ⟨w_143, List.forall_mem_cons.mpr ⟨w_145, List.forall_mem_cons.mpr ⟨w_147, List.forall_mem_cons.mpr ⟨w_149, fun _ h => absurd h List.not_mem_nil⟩⟩⟩⟩⟩⟩⟩⟩⟩⟩
theorem inGX7 : ∀ w ∈ u_ws RX7 TX7 9, w ∈ lw_g := List.forall_mem_cons.mpr ⟨w_372, List.forall_mem_cons.mpr ⟨w_374, List.forall_mem_cons.mpr ⟨w_376, List.forall_mem_cons.mpr ⟨w_378, List.forall_mem_cons.mpr ⟨w_380, List.forall_mem_cons.mpr ⟨w_382, List.forall_mem_cons.mpr ⟨w_384, List.forall_mem_cons.mpr ⟨w_386, List.forall_mem_cons.mpr ⟨w_388, fun _ h => absurd h List.not_mem_nil⟩⟩⟩⟩⟩⟩⟩⟩⟩
theorem inGX8 : ∀ w ∈ u_ws RX8 TX8 9, w ∈ lw_g := List.forall_mem_cons.mpr ⟨w_168, List.forall_mem_cons.mpr ⟨w_170, List.forall_mem_cons.mpr ⟨w_172, List.forall_mem_cons.mpr ⟨w_174, List.forall_mem_cons.mpr ⟨w_176, List.forall_mem_cons.mpr ⟨w_178, List.forall_mem_cons.mpr ⟨w_180, List.forall_mem_cons.mpr ⟨w_182, List.forall_mem_cons.mpr ⟨w_184, fun _ h => absurd h List.not_mem_nil⟩⟩⟩⟩⟩⟩⟩⟩⟩
theorem inGX9 : ∀ w ∈ u_ws RX9 TX9 10, w ∈ lw_g := List.forall_mem_cons.mpr ⟨w_336, List.forall_mem_cons.mpr ⟨w_338, List.forall_mem_cons.mpr ⟨w_340, List.forall_mem_cons.mpr ⟨w_342, List.forall_mem_cons.mpr ⟨w_344, List.forall_mem_cons.mpr ⟨w_346, List.forall_mem_cons.mpr ⟨w_348, List.forall_mem_cons.mpr ⟨w_350, List.forall_mem_cons.mpr ⟨w_352, List.forall_mem_cons.mpr ⟨w_354, fun _ h => absurd h List.not_mem_nil⟩⟩⟩⟩⟩⟩⟩⟩⟩⟩
theorem inGX10 : ∀ w ∈ u_ws RX10 TX10 7, w ∈ lw_g := List.forall_mem_cons.mpr ⟨w_301, List.forall_mem_cons.mpr ⟨w_303, List.forall_mem_cons.mpr ⟨w_305, List.forall_mem_cons.mpr ⟨w_307, List.forall_mem_cons.mpr ⟨w_309, List.forall_mem_cons.mpr ⟨w_311, List.forall_mem_cons.mpr ⟨w_313, fun _ h => absurd h List.not_mem_nil⟩⟩⟩⟩⟩⟩⟩
theorem inGX11 : ∀ w ∈ u_ws RX11 TX11 9, w ∈ lw_g := List.forall_mem_cons.mpr ⟨w_482, List.forall_mem_cons.mpr ⟨w_484, List.forall_mem_cons.mpr ⟨w_486, List.forall_mem_cons.mpr ⟨w_488, List.forall_mem_cons.mpr ⟨w_490, List.forall_mem_cons.mpr ⟨w_492, List.forall_mem_cons.mpr ⟨w_494, List.forall_mem_cons.mpr ⟨w_496, List.forall_mem_cons.mpr ⟨w_498, fun _ h => absurd h List.not_mem_nil⟩⟩⟩⟩⟩⟩⟩⟩⟩
theorem inGX12 : ∀ w ∈ u_ws RX12 TX12 25, w ∈ lw_g := List.forall_mem_cons.mpr ⟨w_1892, List.forall_mem_cons.mpr ⟨w_1894, List.forall_mem_cons.mpr ⟨w_1896, List.forall_mem_cons.mpr ⟨w_1898, List.forall_mem_cons.mpr ⟨w_1900, List.forall_mem_cons.mpr ⟨w_1902, List.forall_mem_cons.mpr ⟨w_1904, List.forall_mem_cons.mpr ⟨w_1906, List.forall_mem_cons.mpr ⟨w_1908, List.forall_mem_cons.mpr ⟨w_1910, List.forall_mem_cons.mpr ⟨w_1912, List.forall_mem_cons.mpr ⟨w_1914, List.forall_mem_cons.mpr ⟨w_1916, List.forall_mem_cons.mpr ⟨w_1918, List.forall_mem_cons.mpr ⟨w_1920, List.forall_mem_cons.mpr ⟨w_1922, List.forall_mem_cons.mpr ⟨w_1924, List.forall_mem_cons.mpr ⟨w_1926, List.forall_mem_cons.mpr ⟨w_1928, List.forall_mem_cons.mpr ⟨w_1930, List.forall_mem_cons.mpr ⟨w_1932, List.forall_mem_cons.mpr ⟨w_1934, List.forall_mem_cons.mpr ⟨w_1936, List.forall_mem_cons.mpr ⟨w_1938, List.forall_mem_cons.mpr ⟨w_1940, fun _ h => absurd h List.not_mem_nil⟩⟩⟩⟩⟩⟩⟩⟩⟩⟩⟩⟩⟩⟩⟩⟩⟩⟩⟩⟩⟩⟩⟩⟩⟩
theorem inGX13 : ∀ w ∈ u_ws RX13 TX13 30, w ∈ lw_g := List.forall_mem_cons.mpr ⟨w_1603, List.forall_mem_cons.mpr ⟨w_1605, List.forall_mem_cons.mpr ⟨w_1607, List.forall_mem_cons.mpr ⟨w_1609, List.forall_mem_cons.mpr ⟨w_1611, List.forall_mem_cons.mpr ⟨w_1613, List.forall_mem_cons.mpr ⟨w_1615, List.forall_mem_cons.mpr ⟨w_1617, List.forall_mem_cons.mpr ⟨w_1619, List.forall_mem_cons.mpr ⟨w_1621, List.forall_mem_cons.mpr ⟨w_1623, List.forall_mem_cons.mpr ⟨w_1625, List.forall_mem_cons.mpr ⟨w_1627, List.forall_mem_cons.mpr ⟨w_1629, List.forall_mem_cons.mpr ⟨w_1631, List.forall_mem_cons.mpr ⟨w_1633, List.forall_mem_cons.mpr ⟨w_1635, List.forall_mem_cons.mpr ⟨w_1637, List.forall_mem_cons.mpr ⟨w_1639, List.forall_mem_cons.mpr ⟨w_1641, List.forall_mem_cons.mpr ⟨w_1643, List.forall_mem_cons.mpr ⟨w_1645, List.forall_mem_cons.mpr ⟨w_1647, List.forall_mem_cons.mpr ⟨w_1649, List.forall_mem_cons.mpr ⟨w_1651, List.forall_mem_cons.mpr ⟨w_1653, List.forall_mem_cons.mpr ⟨w_1655, List.forall_mem_cons.mpr ⟨w_1657, List.forall_mem_cons.mpr ⟨w_1659, List.forall_mem_cons.mpr ⟨w_1661, fun _ h => absurd h List.not_mem_nil⟩⟩⟩⟩⟩⟩⟩⟩⟩⟩⟩⟩⟩⟩⟩⟩⟩⟩⟩⟩⟩⟩⟩⟩⟩⟩⟩⟩⟩⟩
end
section
def ev_tr {α : Type} (k : Nat) (a b : Nat → α) : Nat → α := fun y => bif Nat.ble k y then b y else a y
def mt : EM := (ev_tr 159 (ev_tr 79 (ev_tr 39 (ev_tr 19 (ev_tr 9 (ev_tr 4 (ev_tr 2 (ev_tr 1 (fun _ => (yX0_init, cX0_init, 1, none, [])) (fun _ => (yX0_count, cX0_count, 1, (some .int), []))) (ev_tr 3 (fun _ => (yX0_forget, cX0_forget, 1, none, [])) (fun _ => (yX0_add, cX0_add, 6, none, [])))) (ev_tr 6 (ev_tr 5 (fun _ => (yX0_part, cX0_part, 3, (some .int), [])) (fun _ => (yX1_init, cX1_init, 1, none, []))) (ev_tr 7 (fun _ => (yX1_clearUpTo, cX1_clearUpTo, 3, none, [])) (ev_tr 8 (fun _ => (yX1_put, cX1_put, 3, none, [])) (fun _ => (yX1_read, cX1_read, 2, (some .int), [])))))) (ev_tr 14 (ev_tr 11 (ev_tr 10 (fun _ => (yX2_init, cX2_init, 1, none, [])) (fun _ => (yX2_count, cX2_count, 1, (some .int), []))) (ev_tr 12 (fun _ => (yX2_isFull, cX2_isFull, 1, (some .boolean), [])) (ev_tr 13 (fun _ => (yX2_add, cX2_add, 3, (some .int), [])) (fun _ => (yX2_removeAll, cX2_removeAll, 2, (some .int), []))))) (ev_tr 16 (ev_tr 15 (fun _ => (yX2_hasAny, cX2_hasAny, 3, (some .boolean), [])) (fun _ => (yX2_itemOf, cX2_itemOf, 3, (some .int), []))) (ev_tr 17 (fun _ => (yX2_set, cX2_set, 2, (some .int), [])) (ev_tr 18 (fun _ => (yX2_isPlain, cX2_isPlain, 2, (some .boolean), [])) (fun _ => (yX2_joinsAhead, cX2_joinsAhead, 2, (some .boolean), []))))))) (ev_tr 29 (ev_tr 24 (ev_tr 21 (ev_tr 20 (fun _ => (yX2_groupEnd, cX2_groupEnd, 3, (some .int), [])) (fun _ => (yX3_init, cX3_init, 6, none, []))) (ev_tr 22 (fun _ => (yX3_size, cX3_size, 1, (some .int), [])) (ev_tr 23 (fun _ => (yX3_used, cX3_used, 1, (some .int), [])) (fun _ => (yX3_laid, cX3_laid, 1, (some .int), []))))) (ev_tr 26 (ev_tr 25 (fun _ => (yX3_sectionAt, cX3_sectionAt, 2, (some .int), [])) (fun _ => (yX3_addressOf, cX3_addressOf, 2, (some .int), []))) (ev_tr 27 (fun _ => (yX3_wordsOf, cX3_wordsOf, 2, (some .int), [])) (ev_tr 28 (fun _ => (yX3_longsOf, cX3_longsOf, 2, (some .int), [])) (fun _ => (yX3_countLongs, cX3_countLongs, 3, (some .int), [])))))) (ev_tr 34 (ev_tr 31 (ev_tr 30 (fun _ => (yX3_addressOfName, cX3_addressOfName, 2, (some .int), [])) (fun _ => (yX3_standsFor, cX3_standsFor, 2, (some .int), []))) (ev_tr 32 (fun _ => (yX3_width, cX3_width, 3, (some .int), [])) (ev_tr 33 (fun _ => (yX3_layOut, cX3_layOut, 3, none, [])) (fun _ => (yX3_orderSections, cX3_orderSections, 4, none, []))))) (ev_tr 36 (ev_tr 35 (fun _ => (yX3_append, cX3_append, 3, none, [])) (fun _ => (yX3_placeSections, cX3_placeSections, 3, none, []))) (ev_tr 37 (fun _ => (yX3_placeCommons, cX3_placeCommons, 2, none, [])) (ev_tr 38 (fun _ => (yX3_addressNames, cX3_addressNames, 3, none, [])) (fun _ => (yX3_wordsAhead, cX3_wordsAhead, 5, (some .int), [])))))))) (ev_tr 59 (ev_tr 49 (ev_tr 44 (ev_tr 41 (ev_tr 40 (fun _ => (yX3_lengthenAll, cX3_lengthenAll, 4, (some .boolean), [])) (fun _ => (yX3_lengthenIn, cX3_lengthenIn, 8, (some .boolean), []))) (ev_tr 42 (fun _ => (yX4_init, cX4_init, 2, none, [])) (ev_tr 43 (fun _ => (yX4_count, cX4_count, 1, (some .int), [])) (fun _ => (yX4_isFull, cX4_isFull, 1, (some .boolean), []))))) (ev_tr 46 (ev_tr 45 (fun _ => (yX4_has, cX4_has, 2, (some .boolean), [])) (fun _ => (yX4_size, cX4_size, 2, (some .int), []))) (ev_tr 47 (fun _ => (yX4_needs, cX4_needs, 2, (some .int), [])) (ev_tr 48 (fun _ => (yX4_exports, cX4_exports, 2, (some .int), [])) (fun _ => (yX4_imports, cX4_imports, 2, (some .int), [])))))) (ev_tr 54 (ev_tr 51 (ev_tr 50 (fun _ => (yX4_opened, cX4_opened, 2, (some .int), [])) (fun _ => (yX4_base, cX4_base, 2, (some .int), []))) (ev_tr 52 (fun _ => (yX4_isLoaded, cX4_isLoaded, 2, (some .boolean), [])) (ev_tr 53 (fun _ => (yX4_isExport, cX4_isExport, 3, (some .boolean), [])) (fun _ => (yX4_isImport, cX4_isImport, 3, (some .boolean), []))))) (ev_tr 56 (ev_tr 55 (fun _ => (yX4_exportAddress, cX4_exportAddress, 3, (some .int), [])) (fun _ => (yX4_boundTo, cX4_boundTo, 3, (some .int), []))) (ev_tr 57 (fun _ => (yX4_boundAddress, cX4_boundAddress, 4, (some .int), [])) (ev_tr 58 (fun _ => (yX4_placeAmongGlobal, cX4_placeAmongGlobal, 2, (some .int), [])) (fun _ => (yX4_placeAmongInitialised, cX4_placeAmongInitialised, 2, (some .int), []))))))) (ev_tr 69 (ev_tr 64 (ev_tr 61 (ev_tr 60 (fun _ => (yX4_placeIn, cX4_placeIn, 4, (some .int), [])) (fun _ => (yX4_countLoaded, cX4_countLoaded, 1, (some .int), []))) (ev_tr 62 (fun _ => (yX4_countGlobal, cX4_countGlobal, 1, (some .int), [])) (ev_tr 63 (fun _ => (yX4_countBindings, cX4_countBindings, 3, (some .int), [])) (fun _ => (yX4_add, cX4_add, 6, (some .int), []))))) (ev_tr 66 (ev_tr 65 (fun _ => (yX4_neededNow, cX4_neededNow, 2, (some .int), [])) (fun _ => (yX4_loaded, cX4_loaded, 3, (some .int), []))) (ev_tr 67 (fun _ => (yX4_fillRow, cX4_fillRow, 6, (some .int), [])) (ev_tr 68 (fun _ => (yX4_openOne, cX4_openOne, 6, (some .int), [])) (fun _ => (yX4_load, cX4_load, 4, none, [])))))) (ev_tr 74 (ev_tr 71 (ev_tr 70 (fun _ => (yX4_makeGlobal, cX4_makeGlobal, 2, none, [])) (fun _ => (yX4_initialise, cX4_initialise, 8, none, []))) (ev_tr 72 (fun _ => (yX4_lowestOf, cX4_lowestOf, 2, (some .int), [])) (ev_tr 73 (fun _ => (yX4_closeOne, cX4_closeOne, 3, (some .int), [])) (fun _ => (yX4_leavingBy, cX4_leavingBy, 5, (some .int), []))))) (ev_tr 76 (ev_tr 75 (fun _ => (yX4_finish, cX4_finish, 5, none, [])) (fun _ => (yX4_without, cX4_without, 5, (some .int), []))) (ev_tr 77 (fun _ => (yX4_bind, cX4_bind, 4, (some .int), [])) (ev_tr 78 (fun _ => (yX4_firstExporter, cX4_firstExporter, 5, (some .int), [])) (fun _ => (yX5_init, cX5_init, 4, none, []))))))))) (ev_tr 119 (ev_tr 99 (ev_tr 89 (ev_tr 84 (ev_tr 81 (ev_tr 80 (fun _ => (yX5_isDone, cX5_isDone, 1, (some .boolean), [])) (fun _ => (yX5_isShared, cX5_isShared, 1, (some .boolean), []))) (ev_tr 82 (fun _ => (yX5_entry, cX5_entry, 1, (some .int), [])) (ev_tr 83 (fun _ => (yX5_run, cX5_run, 6, none, [])) (fun _ => (yX5_tellFaults, cX5_tellFaults, 5, none, []))))) (ev_tr 86 (ev_tr 85 (fun _ => (yX5_tellFaultsOf, cX5_tellFaultsOf, 6, none, [])) (fun _ => (yX5_writeTo, cX5_writeTo, 6, none, []))) (ev_tr 87 (fun _ => (yX5_writePiece, cX5_writePiece, 6, none, [])) (ev_tr 88 (fun _ => (yX6_init, cX6_init, 1, none, [])) (fun _ => (yX6_count, cX6_count, 1, (some .int), [])))))) (ev_tr 94 (ev_tr 91 (ev_tr 90 (fun _ => (yX6_isFull, cX6_isFull, 1, (some .boolean), [])) (fun _ => (yX6_has, cX6_has, 2, (some .boolean), []))) (ev_tr 92 (fun _ => (yX6_hasAll, cX6_hasAll, 2, (some .boolean), [])) (ev_tr 93 (fun _ => (yX6_add, cX6_add, 2, (some .int), [])) (fun _ => (yX6_defined, cX6_defined, 2, (some .int), []))))) (ev_tr 96 (ev_tr 95 (fun _ => (yX6_offered, cX6_offered, 2, (some .int), [])) (fun _ => (yX6_needed, cX6_needed, 2, (some .int), []))) (ev_tr 97 (fun _ => (yX6_need, cX6_need, 3, none, [])) (ev_tr 98 (fun _ => (yX6_addDefinition, cX6_addDefinition, 7, none, [])) (fun _ => (yX6_hide, cX6_hide, 3, none, []))))))) (ev_tr 109 (ev_tr 104 (ev_tr 101 (ev_tr 100 (fun _ => (yX6_addCommon, cX6_addCommon, 5, none, [])) (fun _ => (yX6_kind, cX6_kind, 3, (some .int), []))) (ev_tr 102 (fun _ => (yX6_sectionOf, cX6_sectionOf, 3, (some .int), [])) (ev_tr 103 (fun _ => (yX6_placeOf, cX6_placeOf, 3, (some .int), [])) (fun _ => (yX6_size, cX6_size, 3, (some .int), []))))) (ev_tr 106 (ev_tr 105 (fun _ => (yX6_align, cX6_align, 3, (some .int), [])) (fun _ => (yX6_isHidden, cX6_isHidden, 3, (some .boolean), []))) (ev_tr 107 (fun _ => (yX7_init, cX7_init, 4, none, [])) (ev_tr 108 (fun _ => (yX7_hasSection, cX7_hasSection, 2, (some .boolean), [])) (fun _ => (yX7_hasCommon, cX7_hasCommon, 2, (some .boolean), [])))))) (ev_tr 114 (ev_tr 111 (ev_tr 110 (fun _ => (yX7_countSections, cX7_countSections, 1, (some .int), [])) (fun _ => (yX7_imports, cX7_imports, 1, (some .int), []))) (ev_tr 112 (fun _ => (yX7_isImport, cX7_isImport, 2, (some .boolean), [])) (ev_tr 113 (fun _ => (yX7_references, cX7_references, 2, (some .int), [])) (fun _ => (yX7_reachAll, cX7_reachAll, 4, none, []))))) (ev_tr 116 (ev_tr 115 (fun _ => (yX7_forget, cX7_forget, 2, none, [])) (fun _ => (yX7_follow, cX7_follow, 5, none, []))) (ev_tr 117 (fun _ => (yX7_reachName, cX7_reachName, 3, none, [])) (ev_tr 118 (fun _ => (yX7_reachSection, cX7_reachSection, 2, none, [])) (fun _ => (yX8_init, cX8_init, 1, none, [])))))))) (ev_tr 139 (ev_tr 129 (ev_tr 124 (ev_tr 121 (ev_tr 120 (fun _ => (yX8_count, cX8_count, 1, (some .int), [])) (fun _ => (yX8_isFull, cX8_isFull, 1, (some .boolean), []))) (ev_tr 122 (fun _ => (yX8_has, cX8_has, 2, (some .boolean), [])) (ev_tr 123 (fun _ => (yX8_add, cX8_add, 4, (some .int), [])) (fun _ => (yX8_isFilled, cX8_isFilled, 2, (some .boolean), []))))) (ev_tr 126 (ev_tr 125 (fun _ => (yX8_addPiece, cX8_addPiece, 8, (some .int), [])) (fun _ => (yX8_objectOf, cX8_objectOf, 2, (some .int), []))) (ev_tr 127 (fun _ => (yX8_align, cX8_align, 2, (some .int), [])) (ev_tr 128 (fun _ => (yX8_isKept, cX8_isKept, 2, (some .boolean), [])) (fun _ => (yX8_pieces, cX8_pieces, 2, (some .int), [])))))) (ev_tr 134 (ev_tr 131 (ev_tr 130 (fun _ => (yX8_countOf, cX8_countOf, 4, (some .int), [])) (fun _ => (yX8_hasPiece, cX8_hasPiece, 3, (some .boolean), []))) (ev_tr 132 (fun _ => (yX8_kind, cX8_kind, 3, (some .int), [])) (ev_tr 133 (fun _ => (yX8_isReference, cX8_isReference, 3, (some .boolean), [])) (fun _ => (yX8_words, cX8_words, 4, (some .int), []))))) (ev_tr 136 (ev_tr 135 (fun _ => (yX8_name, cX8_name, 3, (some .int), [])) (fun _ => (yX8_added, cX8_added, 3, (some .int), []))) (ev_tr 137 (fun _ => (yX8_isWeak, cX8_isWeak, 3, (some .boolean), [])) (ev_tr 138 (fun _ => (yX9_init, cX9_init, 3, none, [])) (fun _ => (yX9_forget, cX9_forget, 2, none, []))))))) (ev_tr 149 (ev_tr 144 (ev_tr 141 (ev_tr 140 (fun _ => (yX9_settle, cX9_settle, 3, none, [])) (fun _ => (yX9_weigh, cX9_weigh, 4, none, []))) (ev_tr 142 (fun _ => (yX9_adopt, cX9_adopt, 4, none, [])) (ev_tr 143 (fun _ => (yX9_kind, cX9_kind, 2, (some .int), [])) (fun _ => (yX9_objectOf, cX9_objectOf, 2, (some .int), []))))) (ev_tr 146 (ev_tr 145 (fun _ => (yX9_sectionOf, cX9_sectionOf, 2, (some .int), [])) (fun _ => (yX9_placeOf, cX9_placeOf, 2, (some .int), []))) (ev_tr 147 (fun _ => (yX9_isHidden, cX9_isHidden, 2, (some .boolean), [])) (ev_tr 148 (fun _ => (yX9_size, cX9_size, 2, (some .int), [])) (fun _ => (yX9_align, cX9_align, 2, (some .int), [])))))) (ev_tr 154 (ev_tr 151 (ev_tr 150 (fun _ => (yX9_isTwiceStrong, cX9_isTwiceStrong, 2, (some .boolean), [])) (fun _ => (yX10_init, cX10_init, 3, none, []))) (ev_tr 152 (fun _ => (yX10_count, cX10_count, 1, (some .int), [])) (ev_tr 153 (fun _ => (yX10_objectAt, cX10_objectAt, 2, (some .int), [])) (fun _ => (yX10_placeOf, cX10_placeOf, 3, (some .int), []))))) (ev_tr 156 (ev_tr 155 (fun _ => (yX10_isTaken, cX10_isTaken, 2, (some .boolean), [])) (fun _ => (yX10_take, cX10_take, 5, none, []))) (ev_tr 157 (fun _ => (yX10_takeAll, cX10_takeAll, 3, none, [])) (ev_tr 158 (fun _ => (yX10_takeGroup, cX10_takeGroup, 7, none, [])) (fun _ => (yX10_takeWanted, cX10_takeWanted, 3, none, [])))))))))) (ev_tr 239 (ev_tr 199 (ev_tr 179 (ev_tr 169 (ev_tr 164 (ev_tr 161 (ev_tr 160 (fun _ => (yX10_add, cX10_add, 2, none, [])) (fun _ => (yX11_init, cX11_init, 1, none, []))) (ev_tr 162 (fun _ => (yX11_object, cX11_object, 1, (some .int), [])) (ev_tr 163 (fun _ => (yX11_section, cX11_section, 4, (some .int), [])) (fun _ => (yX11_fill, cX11_fill, 3, (some .int), []))))) (ev_tr 166 (ev_tr 165 (fun _ => (yX11_word, cX11_word, 5, (some .int), [])) (fun _ => (yX11_jump, cX11_jump, 4, (some .int), []))) (ev_tr 167 (fun _ => (yX11_define, cX11_define, 7, (some .int), [])) (ev_tr 168 (fun _ => (yX11_common, cX11_common, 5, (some .int), [])) (fun _ => (yX11_item, cX11_item, 3, (some .int), [])))))) (ev_tr 174 (ev_tr 171 (ev_tr 170 (fun _ => (yX11_clear, cX11_clear, 1, (some .int), [])) (fun _ => (yX11_ofObject, cX11_ofObject, 3, (some .int), []))) (ev_tr 172 (fun _ => (yX11_bounds, cX11_bounds, 4, (some .int), [])) (ev_tr 173 (fun _ => (yX11_link, cX11_link, 3, (some .int), [])) (fun _ => (yX11_ofSection, cX11_ofSection, 3, (some .int), []))))) (ev_tr 176 (ev_tr 175 (fun _ => (yX11_ofName, cX11_ofName, 3, (some .int), [])) (fun _ => (yX11_fault, cX11_fault, 3, (some .int), []))) (ev_tr 177 (fun _ => (yX11_wordAt, cX11_wordAt, 2, (some .int), [])) (ev_tr 178 (fun _ => (yX11_publish, cX11_publish, 2, (some .int), [])) (fun _ => (yX11_open, cX11_open, 3, (some .int), []))))))) (ev_tr 189 (ev_tr 184 (ev_tr 181 (ev_tr 180 (fun _ => (yX11_close, cX11_close, 2, (some .int), [])) (fun _ => (yX11_call, cX11_call, 3, (some .int), []))) (ev_tr 182 (fun _ => (yX11_ofBinding, cX11_ofBinding, 4, (some .int), [])) (ev_tr 183 (fun _ => (yX11_ofLibrary, cX11_ofLibrary, 3, (some .int), [])) (fun _ => (yX11_many, cX11_many, 2, (some .int), []))))) (ev_tr 186 (ev_tr 185 (fun _ => (yX11_usedPart, cX11_usedPart, 2, (some .double), [])) (fun _ => (yX11_sizeWith, cX11_sizeWith, 2, (some .int), []))) (ev_tr 187 (fun _ => (yX11_faultsWithout, cX11_faultsWithout, 2, (some .int), [])) (ev_tr 188 (fun _ => (yX11_goes, cX11_goes, 2, (some .int), [])) (fun _ => (yX11_wouldBind, cX11_wouldBind, 3, (some .int), [])))))) (ev_tr 194 (ev_tr 191 (ev_tr 190 (fun _ => (yX11_digest, cX11_digest, 4, (some .long), [])) (fun _ => (yX11_mixObjects, cX11_mixObjects, 7, (some .long), []))) (ev_tr 192 (fun _ => (yX11_mixSections, cX11_mixSections, 7, (some .long), [])) (ev_tr 193 (fun _ => (yX11_mixNames, cX11_mixNames, 7, (some .long), [])) (fun _ => (yX11_mixFaults, cX11_mixFaults, 7, (some .long), []))))) (ev_tr 196 (ev_tr 195 (fun _ => (yX11_mixLibrary, cX11_mixLibrary, 8, (some .long), [])) (fun _ => (yX11_mix, cX11_mix, 4, (some .long), []))) (ev_tr 197 (fun _ => (yX11_isIn, cX11_isIn, 2, (some .boolean), [])) (ev_tr 198 (fun _ => (yX11_isName, cX11_isName, 1, (some .boolean), [])) (fun _ => (yX11_isAlign, cX11_isAlign, 1, (some .boolean), [])))))))) (ev_tr 219 (ev_tr 209 (ev_tr 204 (ev_tr 201 (ev_tr 200 (fun _ => (yX11_isReach, cX11_isReach, 1, (some .boolean), [])) (fun _ => (yX11_hasBit, cX11_hasBit, 2, (some .boolean), []))) (ev_tr 202 (fun _ => (yX11_roundUp, cX11_roundUp, 2, (some .int), [])) (ev_tr 203 (fun _ => (yX11_addReference, cX11_addReference, 6, (some .int), [])) (fun _ => (yX12_init, cX12_init, 8, none, []))))) (ev_tr 206 (ev_tr 205 (fun _ => (yX12_endOf, cX12_endOf, 3, (some .int), [])) (fun _ => (yX12_take, cX12_take, 7, none, []))) (ev_tr 207 (fun _ => (yX12_isDrawn, cX12_isDrawn, 3, (some .boolean), [])) (ev_tr 208 (fun _ => (yX12_isWanted, cX12_isWanted, 4, (some .boolean), [])) (fun _ => (yX12_nameAt, cX12_nameAt, 3, (some .int), [])))))) (ev_tr 214 (ev_tr 211 (ev_tr 210 (fun _ => (yX12_firstWith, cX12_firstWith, 4, (some .int), [])) (fun _ => (yX12_settle, cX12_settle, 5, none, []))) (ev_tr 212 (fun _ => (yX12_fault, cX12_fault, 6, none, [])) (ev_tr 213 (fun _ => (yX12_sectionOf, cX12_sectionOf, 2, (some .int), [])) (fun _ => (yX12_reachName, cX12_reachName, 5, (some .boolean), []))))) (ev_tr 216 (ev_tr 215 (fun _ => (yX12_reachAll, cX12_reachAll, 4, none, [])) (fun _ => (yX12_wordsOf, cX12_wordsOf, 4, (some .int), []))) (ev_tr 217 (fun _ => (yX12_wordsUpTo, cX12_wordsUpTo, 5, (some .int), [])) (ev_tr 218 (fun _ => (yX12_next, cX12_next, 2, (some .int), [])) (fun _ => (yX12_place, cX12_place, 4, none, []))))))) (ev_tr 229 (ev_tr 224 (ev_tr 221 (ev_tr 220 (fun _ => (yX12_standsFor, cX12_standsFor, 2, (some .int), [])) (fun _ => (yX12_layOut, cX12_layOut, 6, none, []))) (ev_tr 222 (fun _ => (yX12_write, cX12_write, 4, none, [])) (ev_tr 223 (fun _ => (yX12_writePiece, cX12_writePiece, 8, none, [])) (fun _ => (yX12_longOf, cX12_longOf, 4, (some .int), []))))) (ev_tr 226 (ev_tr 225 (fun _ => (yX12_allLong, cX12_allLong, 4, (some .int), [])) (fun _ => (yX12_ofName, cX12_ofName, 3, (some .int), []))) (ev_tr 227 (fun _ => (yX12_reachedSections, cX12_reachedSections, 3, (some .int), [])) (ev_tr 228 (fun _ => (yX13_init, cX13_init, 1, none, [])) (fun _ => (yX13_thrown, cX13_thrown, 1, (some .int), [])))))) (ev_tr 234 (ev_tr 231 (ev_tr 230 (fun _ => (yX13_no, cX13_no, 2, (some .int), [])) (fun _ => (yX13_isIn, cX13_isIn, 3, (some .boolean), []))) (ev_tr 232 (fun _ => (yX13_has, cX13_has, 2, (some .boolean), [])) (ev_tr 233 (fun _ => (yX13_isAlign, cX13_isAlign, 1, (some .boolean), [])) (fun _ => (yX13_isObject, cX13_isObject, 2, (some .boolean), []))))) (ev_tr 236 (ev_tr 235 (fun _ => (yX13_isSection, cX13_isSection, 2, (some .boolean), [])) (fun _ => (yX13_isName, cX13_isName, 1, (some .boolean), []))) (ev_tr 237 (fun _ => (yX13_object, cX13_object, 1, (some .int), [])) (ev_tr 238 (fun _ => (yX13_section, cX13_section, 4, (some .int), [])) (fun _ => (yX13_add, cX13_add, 7, (some .int), []))))))))) (ev_tr 279 (ev_tr 259 (ev_tr 249 (ev_tr 244 (ev_tr 241 (ev_tr 240 (fun _ => (yX13_fill, cX13_fill, 3, (some .int), [])) (fun _ => (yX13_word, cX13_word, 5, (some .int), []))) (ev_tr 242 (fun _ => (yX13_jump, cX13_jump, 4, (some .int), [])) (ev_tr 243 (fun _ => (yX13_defineNow, cX13_defineNow, 8, (some .int), [])) (fun _ => (yX13_define, cX13_define, 5, (some .int), []))))) (ev_tr 246 (ev_tr 245 (fun _ => (yX13_definitions, cX13_definitions, 4, (some .int), [])) (fun _ => (yX13_common, cX13_common, 5, (some .int), []))) (ev_tr 247 (fun _ => (yX13_itemOf, cX13_itemOf, 3, (some .int), [])) (ev_tr 248 (fun _ => (yX13_item, cX13_item, 4, (some .int), [])) (fun _ => (yX13_clear, cX13_clear, 2, (some .int), [])))))) (ev_tr 254 (ev_tr 251 (ev_tr 250 (fun _ => (yX13_sectionsOf, cX13_sectionsOf, 4, (some .int), [])) (fun _ => (yX13_ofObjectNow, cX13_ofObjectNow, 3, (some .int), []))) (ev_tr 252 (fun _ => (yX13_ofObject, cX13_ofObject, 3, (some .int), [])) (ev_tr 253 (fun _ => (yX13_bounds, cX13_bounds, 4, (some .int), [])) (fun _ => (yX13_link, cX13_link, 4, (some .int), []))))) (ev_tr 256 (ev_tr 255 (fun _ => (yX13_ofSectionNow, cX13_ofSectionNow, 3, (some .int), [])) (fun _ => (yX13_ofSection, cX13_ofSection, 3, (some .int), []))) (ev_tr 257 (fun _ => (yX13_ofNameNow, cX13_ofNameNow, 3, (some .int), [])) (ev_tr 258 (fun _ => (yX13_ofName, cX13_ofName, 3, (some .int), [])) (fun _ => (yX13_fault, cX13_fault, 3, (some .int), []))))))) (ev_tr 269 (ev_tr 264 (ev_tr 261 (ev_tr 260 (fun _ => (yX13_wordAt, cX13_wordAt, 2, (some .int), [])) (fun _ => (yX13_isLibrary, cX13_isLibrary, 2, (some .boolean), []))) (ev_tr 262 (fun _ => (yX13_isLoaded, cX13_isLoaded, 2, (some .boolean), [])) (ev_tr 263 (fun _ => (yX13_publish, cX13_publish, 6, (some .int), [])) (fun _ => (yX13_plus, cX13_plus, 3, (some (.array .int)), []))))) (ev_tr 266 (ev_tr 265 (fun _ => (yX13_placeIn, cX13_placeIn, 3, (some .int), [])) (fun _ => (yX13_without, cX13_without, 7, (some (.array .int)), []))) (ev_tr 267 (fun _ => (yX13_rowOf, cX13_rowOf, 5, (some (.array .int)), [])) (ev_tr 268 (fun _ => (yX13_baseNow, cX13_baseNow, 3, (some .int), [])) (fun _ => (yX13_go, cX13_go, 6, (some .int), [])))))) (ev_tr 274 (ev_tr 271 (ev_tr 270 (fun _ => (yX13_open, cX13_open, 9, (some .int), [])) (fun _ => (yX13_goesNow, cX13_goesNow, 8, (some .int), []))) (ev_tr 272 (fun _ => (yX13_close, cX13_close, 7, (some .int), [])) (ev_tr 273 (fun _ => (yX13_find, cX13_find, 7, (some .int), [])) (fun _ => (yX13_canCall, cX13_canCall, 3, (some .boolean), []))))) (ev_tr 276 (ev_tr 275 (fun _ => (yX13_call, cX13_call, 3, (some .int), [])) (fun _ => (yX13_ofBindingNow, cX13_ofBindingNow, 5, (some .int), []))) (ev_tr 277 (fun _ => (yX13_ofBinding, cX13_ofBinding, 4, (some .int), [])) (ev_tr 278 (fun _ => (yX13_exports, cX13_exports, 4, (some .int), [])) (fun _ => (yX13_bits, cX13_bits, 3, (some .int), [])))))))) (ev_tr 299 (ev_tr 289 (ev_tr 284 (ev_tr 281 (ev_tr 280 (fun _ => (yX13_ofLibraryNow, cX13_ofLibraryNow, 3, (some .int), [])) (fun _ => (yX13_ofLibrary, cX13_ofLibrary, 3, (some .int), []))) (ev_tr 282 (fun _ => (yX13_manyNow, cX13_manyNow, 4, (some .int), [])) (ev_tr 283 (fun _ => (yX13_many, cX13_many, 2, (some .int), [])) (fun _ => (yX13_usedPart, cX13_usedPart, 1, (some .double), []))))) (ev_tr 286 (ev_tr 285 (fun _ => (yX13_sizeWith, cX13_sizeWith, 2, (some .int), [])) (fun _ => (yX13_faultsWithout, cX13_faultsWithout, 2, (some .int), []))) (ev_tr 287 (fun _ => (yX13_goes, cX13_goes, 2, (some .int), [])) (ev_tr 288 (fun _ => (yX13_wouldBindNow, cX13_wouldBindNow, 3, (some .int), [])) (fun _ => (yX13_wouldBind, cX13_wouldBind, 3, (some .int), [])))))) (ev_tr 294 (ev_tr 291 (ev_tr 290 (fun _ => (yX13_digest, cX13_digest, 6, (some .long), [])) (fun _ => (yJ6_bitCount_0f7a4, cJ6_bitCount_0f7a4, 1, (some .int), []))) (ev_tr 292 (fun _ => (yJ9_abs_0f7a4, cJ9_abs_0f7a4, 1, (some .int), [])) (ev_tr 293 (fun _ => (yJ9_max_7cf53, cJ9_max_7cf53, 2, (some .int), [])) (fun _ => (yL_object, cL_object, 3, (some .int), [(0, 8, 11, 13)]))))) (ev_tr 296 (ev_tr 295 (fun _ => (yL_section, cL_section, 6, (some .int), [(0, 12, 15, 19), (0, 12, 19, 21), (0, 12, 23, 13)])) (fun _ => (yL_fill, cL_fill, 5, (some .int), [(0, 10, 13, 19), (0, 10, 17, 21), (0, 10, 21, 13)]))) (ev_tr 297 (fun _ => (yL_word, cL_word, 7, (some .int), [(0, 14, 17, 19), (0, 14, 21, 21), (0, 14, 25, 13)])) (ev_tr 298 (fun _ => (yL_jump, cL_jump, 6, (some .int), [(0, 12, 15, 19), (0, 12, 19, 21), (0, 12, 23, 13)])) (fun _ => (yL_define, cL_define, 7, (some .int), [(0, 14, 17, 19), (0, 14, 21, 21), (0, 14, 25, 13)]))))))) (ev_tr 309 (ev_tr 304 (ev_tr 301 (ev_tr 300 (fun _ => (yL_common, cL_common, 7, (some .int), [(0, 14, 17, 19), (0, 14, 21, 21), (0, 14, 25, 13)])) (fun _ => (yL_item, cL_item, 5, (some .int), [(0, 10, 13, 21), (0, 10, 17, 13)]))) (ev_tr 302 (fun _ => (yL_ofObject, cL_ofObject, 5, (some .int), [(0, 10, 13, 19), (0, 10, 17, 21)])) (ev_tr 303 (fun _ => (yL_bounds, cL_bounds, 5, (some .int), [(0, 10, 13, 21)])) (fun _ => (yL_link, cL_link, 5, (some .int), [(0, 10, 13, 21)]))))) (ev_tr 306 (ev_tr 305 (fun _ => (yL_ofSection, cL_ofSection, 5, (some .int), [(0, 10, 13, 19), (0, 10, 17, 21)])) (fun _ => (yL_ofName, cL_ofName, 5, (some .int), [(0, 10, 13, 21)]))) (ev_tr 307 (fun _ => (yL_fault, cL_fault, 5, (some .int), [(0, 10, 13, 19), (0, 10, 17, 21)])) (ev_tr 308 (fun _ => (yL_wordAt, cL_wordAt, 4, (some .int), [(0, 9, 12, 19)])) (fun _ => (yL_publish, cL_publish, 4, (some .int), [(0, 9, 12, 21), (0, 9, 15, 13)])))))) (ev_tr 314 (ev_tr 311 (ev_tr 310 (fun _ => (yL_open, cL_open, 5, (some .int), [(0, 10, 13, 19)])) (fun _ => (yL_close, cL_close, 4, (some .int), [(0, 9, 12, 19), (0, 9, 15, 13)]))) (ev_tr 312 (fun _ => (yL_call, cL_call, 5, (some .int), [(0, 10, 13, 19), (0, 10, 17, 21), (0, 10, 21, 13)])) (ev_tr 313 (fun _ => (yL_ofBinding, cL_ofBinding, 6, (some .int), [(0, 12, 15, 19), (0, 12, 19, 21)])) (fun _ => (yL_ofLibrary, cL_ofLibrary, 5, (some .int), [(0, 10, 13, 19), (0, 10, 17, 21)]))))) (ev_tr 316 (ev_tr 315 (fun _ => (yL_many, cL_many, 4, (some .int), [(0, 9, 12, 21)])) (fun _ => (yL_sizeWith, cL_sizeWith, 4, (some .int), [(0, 9, 12, 21), (0, 9, 15, 13)]))) (ev_tr 317 (fun _ => (yL_faultsWithout, cL_faultsWithout, 4, (some .int), [(0, 9, 12, 19), (0, 9, 15, 13)])) (ev_tr 318 (fun _ => (yL_goes, cL_goes, 4, (some .int), [(0, 9, 12, 19)])) (fun _ => (yL_wouldBind, cL_wouldBind, 5, (some .int), [(0, 10, 13, 19), (0, 10, 17, 21)])))))))))))
theorem cz_0 : (mt 0).2.2.2.2 = [] := rfl
theorem cc_0 : Cond.code (mt 0).1 (mt 0).2.1 (mt 0).2.2.1 (mt 0).2.2.2.1 ∈ lw_g := mG 279 (by decide +kernel) rfl
theorem ci_0 : Cond.initialized (mt 0).1.cls ∈ lw_g := w_91
theorem cm_0 : Cond.instanceMethod (mt 0).1 ∈ lw_g := w_278
theorem cd_0 : (mt 0).1.cls ≠ "java/lang/invoke/MethodHandle" ∧ (mt 0).1.cls ≠ "java/lang/invoke/VarHandle" ∧ (parseMethodDescriptor (mt 0).1.desc).map (fun d => d.parameters.length) = some 0 := ⟨by decide +kernel, by decide +kernel, by decide +kernel⟩
theorem cl_0 : (mt 0).2.2.1 ≤ 45 := by decide
theorem cz_1 : (mt 1).2.2.2.2 = [] := rfl
theorem cc_1 : Cond.code (mt 1).1 (mt 1).2.1 (mt 1).2.2.1 (mt 1).2.2.2.1 ∈ lw_g := mG 591 (by decide +kernel) rfl
theorem ci_1 : Cond.initialized (mt 1).1.cls ∈ lw_g := w_91
theorem cm_1 : Cond.instanceMethod (mt 1).1 ∈ lw_g := w_589
theorem cs_1 : Cond.selects (mt 1).1.cls (mt 1).1 (mt 1).1 ∈ lw_g := w_590
theorem cd_1 : (mt 1).1.cls ≠ "java/lang/invoke/MethodHandle" ∧ (mt 1).1.cls ≠ "java/lang/invoke/VarHandle" ∧ (parseMethodDescriptor (mt 1).1.desc).map (fun d => d.parameters.length) = some 0 := ⟨by decide +kernel, by decide +kernel, by decide +kernel⟩
theorem cl_1 : (mt 1).2.2.1 ≤ 45 := by decide
theorem cz_2 : (mt 2).2.2.2.2 = [] := rfl
theorem cc_2 : Cond.code (mt 2).1 (mt 2).2.1 (mt 2).2.2.1 (mt 2).2.2.2.1 ∈ lw_g := mG 1207 (by decide +kernel) rfl
theorem ci_2 : Cond.initialized (mt 2).1.cls ∈ lw_g := w_91
theorem cm_2 : Cond.instanceMethod (mt 2).1 ∈ lw_g := w_1205
theorem cs_2 : Cond.selects (mt 2).1.cls (mt 2).1 (mt 2).1 ∈ lw_g := w_1206
theorem cd_2 : (mt 2).1.cls ≠ "java/lang/invoke/MethodHandle" ∧ (mt 2).1.cls ≠ "java/lang/invoke/VarHandle" ∧ (parseMethodDescriptor (mt 2).1.desc).map (fun d => d.parameters.length) = some 0 := ⟨by decide +kernel, by decide +kernel, by decide +kernel⟩
theorem cl_2 : (mt 2).2.2.1 ≤ 45 := by decide
theorem cz_3 : (mt 3).2.2.2.2 = [] := rfl
theorem cc_3 : Cond.code (mt 3).1 (mt 3).2.1 (mt 3).2.2.1 (mt 3).2.2.2.1 ∈ lw_g := mG 1215 (by decide +kernel) rfl
theorem ci_3 : Cond.initialized (mt 3).1.cls ∈ lw_g := w_91
theorem cm_3 : Cond.instanceMethod (mt 3).1 ∈ lw_g := w_1213
theorem cs_3 : Cond.selects (mt 3).1.cls (mt 3).1 (mt 3).1 ∈ lw_g := w_1214
theorem cd_3 : (mt 3).1.cls ≠ "java/lang/invoke/MethodHandle" ∧ (mt 3).1.cls ≠ "java/lang/invoke/VarHandle" ∧ (parseMethodDescriptor (mt 3).1.desc).map (fun d => d.parameters.length) = some 4 := ⟨by decide +kernel, by decide +kernel, by decide +kernel⟩
theorem cl_3 : (mt 3).2.2.1 ≤ 45 := by decide
theorem cz_4 : (mt 4).2.2.2.2 = [] := rfl
theorem cc_4 : Cond.code (mt 4).1 (mt 4).2.1 (mt 4).2.2.1 (mt 4).2.2.2.1 ∈ lw_g := mG 819 (by decide +kernel) rfl
theorem ci_4 : Cond.initialized (mt 4).1.cls ∈ lw_g := w_91
theorem cm_4 : Cond.instanceMethod (mt 4).1 ∈ lw_g := w_817
theorem cs_4 : Cond.selects (mt 4).1.cls (mt 4).1 (mt 4).1 ∈ lw_g := w_818
theorem cd_4 : (mt 4).1.cls ≠ "java/lang/invoke/MethodHandle" ∧ (mt 4).1.cls ≠ "java/lang/invoke/VarHandle" ∧ (parseMethodDescriptor (mt 4).1.desc).map (fun d => d.parameters.length) = some 2 := ⟨by decide +kernel, by decide +kernel, by decide +kernel⟩
theorem cl_4 : (mt 4).2.2.1 ≤ 45 := by decide
theorem cz_5 : (mt 5).2.2.2.2 = [] := rfl
theorem cc_5 : Cond.code (mt 5).1 (mt 5).2.1 (mt 5).2.2.1 (mt 5).2.2.2.1 ∈ lw_g := mG 263 (by decide +kernel) rfl
theorem ci_5 : Cond.initialized (mt 5).1.cls ∈ lw_g := w_89
theorem cm_5 : Cond.instanceMethod (mt 5).1 ∈ lw_g := w_262
theorem cd_5 : (mt 5).1.cls ≠ "java/lang/invoke/MethodHandle" ∧ (mt 5).1.cls ≠ "java/lang/invoke/VarHandle" ∧ (parseMethodDescriptor (mt 5).1.desc).map (fun d => d.parameters.length) = some 0 := ⟨by decide +kernel, by decide +kernel, by decide +kernel⟩
theorem cl_5 : (mt 5).2.2.1 ≤ 45 := by decide
theorem cz_6 : (mt 6).2.2.2.2 = [] := rfl
theorem cc_6 : Cond.code (mt 6).1 (mt 6).2.1 (mt 6).2.2.1 (mt 6).2.2.2.1 ∈ lw_g := mG 1412 (by decide +kernel) rfl
theorem ci_6 : Cond.initialized (mt 6).1.cls ∈ lw_g := w_89
theorem cm_6 : Cond.instanceMethod (mt 6).1 ∈ lw_g := w_1410
theorem cs_6 : Cond.selects (mt 6).1.cls (mt 6).1 (mt 6).1 ∈ lw_g := w_1411
theorem cd_6 : (mt 6).1.cls ≠ "java/lang/invoke/MethodHandle" ∧ (mt 6).1.cls ≠ "java/lang/invoke/VarHandle" ∧ (parseMethodDescriptor (mt 6).1.desc).map (fun d => d.parameters.length) = some 1 := ⟨by decide +kernel, by decide +kernel, by decide +kernel⟩
theorem cl_6 : (mt 6).2.2.1 ≤ 45 := by decide
theorem cz_7 : (mt 7).2.2.2.2 = [] := rfl
theorem cc_7 : Cond.code (mt 7).1 (mt 7).2.1 (mt 7).2.2.1 (mt 7).2.2.2.1 ∈ lw_g := mG 1422 (by decide +kernel) rfl
theorem ci_7 : Cond.initialized (mt 7).1.cls ∈ lw_g := w_89
theorem cm_7 : Cond.instanceMethod (mt 7).1 ∈ lw_g := w_1420
theorem cs_7 : Cond.selects (mt 7).1.cls (mt 7).1 (mt 7).1 ∈ lw_g := w_1421
theorem cd_7 : (mt 7).1.cls ≠ "java/lang/invoke/MethodHandle" ∧ (mt 7).1.cls ≠ "java/lang/invoke/VarHandle" ∧ (parseMethodDescriptor (mt 7).1.desc).map (fun d => d.parameters.length) = some 2 := ⟨by decide +kernel, by decide +kernel, by decide +kernel⟩
theorem cl_7 : (mt 7).2.2.1 ≤ 45 := by decide
theorem cz_8 : (mt 8).2.2.2.2 = [] := rfl
theorem cc_8 : Cond.code (mt 8).1 (mt 8).2.1 (mt 8).2.2.1 (mt 8).2.2.2.1 ∈ lw_g := mG 829 (by decide +kernel) rfl
theorem ci_8 : Cond.initialized (mt 8).1.cls ∈ lw_g := w_89
theorem cm_8 : Cond.instanceMethod (mt 8).1 ∈ lw_g := w_827
theorem cs_8 : Cond.selects (mt 8).1.cls (mt 8).1 (mt 8).1 ∈ lw_g := w_828
theorem cd_8 : (mt 8).1.cls ≠ "java/lang/invoke/MethodHandle" ∧ (mt 8).1.cls ≠ "java/lang/invoke/VarHandle" ∧ (parseMethodDescriptor (mt 8).1.desc).map (fun d => d.parameters.length) = some 1 := ⟨by decide +kernel, by decide +kernel, by decide +kernel⟩
theorem cl_8 : (mt 8).2.2.1 ≤ 45 := by decide
theorem cz_9 : (mt 9).2.2.2.2 = [] := rfl
theorem cc_9 : Cond.code (mt 9).1 (mt 9).2.1 (mt 9).2.2.1 (mt 9).2.2.2.1 ∈ lw_g := mG 192 (by decide +kernel) rfl
theorem ci_9 : Cond.initialized (mt 9).1.cls ∈ lw_g := w_87
theorem cm_9 : Cond.instanceMethod (mt 9).1 ∈ lw_g := w_191
theorem cd_9 : (mt 9).1.cls ≠ "java/lang/invoke/MethodHandle" ∧ (mt 9).1.cls ≠ "java/lang/invoke/VarHandle" ∧ (parseMethodDescriptor (mt 9).1.desc).map (fun d => d.parameters.length) = some 0 := ⟨by decide +kernel, by decide +kernel, by decide +kernel⟩
theorem cl_9 : (mt 9).2.2.1 ≤ 45 := by decide
theorem cz_10 : (mt 10).2.2.2.2 = [] := rfl
theorem cc_10 : Cond.code (mt 10).1 (mt 10).2.1 (mt 10).2.2.1 (mt 10).2.2.2.1 ∈ lw_g := mG 541 (by decide +kernel) rfl
theorem ci_10 : Cond.initialized (mt 10).1.cls ∈ lw_g := w_87
theorem cm_10 : Cond.instanceMethod (mt 10).1 ∈ lw_g := w_539
theorem cs_10 : Cond.selects (mt 10).1.cls (mt 10).1 (mt 10).1 ∈ lw_g := w_540
theorem cd_10 : (mt 10).1.cls ≠ "java/lang/invoke/MethodHandle" ∧ (mt 10).1.cls ≠ "java/lang/invoke/VarHandle" ∧ (parseMethodDescriptor (mt 10).1.desc).map (fun d => d.parameters.length) = some 0 := ⟨by decide +kernel, by decide +kernel, by decide +kernel⟩
theorem cl_10 : (mt 10).2.2.1 ≤ 45 := by decide
theorem cz_11 : (mt 11).2.2.2.2 = [] := rfl
theorem cc_11 : Cond.code (mt 11).1 (mt 11).2.1 (mt 11).2.2.1 (mt 11).2.2.2.1 ∈ lw_g := mG 1374 (by decide +kernel) rfl
theorem ci_11 : Cond.initialized (mt 11).1.cls ∈ lw_g := w_87
theorem cm_11 : Cond.instanceMethod (mt 11).1 ∈ lw_g := w_1372
theorem cs_11 : Cond.selects (mt 11).1.cls (mt 11).1 (mt 11).1 ∈ lw_g := w_1373
theorem cd_11 : (mt 11).1.cls ≠ "java/lang/invoke/MethodHandle" ∧ (mt 11).1.cls ≠ "java/lang/invoke/VarHandle" ∧ (parseMethodDescriptor (mt 11).1.desc).map (fun d => d.parameters.length) = some 0 := ⟨by decide +kernel, by decide +kernel, by decide +kernel⟩
theorem cl_11 : (mt 11).2.2.1 ≤ 45 := by decide
theorem cz_12 : (mt 12).2.2.2.2 = [] := rfl
theorem cc_12 : Cond.code (mt 12).1 (mt 12).2.1 (mt 12).2.2.1 (mt 12).2.2.2.1 ∈ lw_g := mG 1383 (by decide +kernel) rfl
theorem ci_12 : Cond.initialized (mt 12).1.cls ∈ lw_g := w_87
theorem cm_12 : Cond.instanceMethod (mt 12).1 ∈ lw_g := w_1381
theorem cs_12 : Cond.selects (mt 12).1.cls (mt 12).1 (mt 12).1 ∈ lw_g := w_1382
theorem cd_12 : (mt 12).1.cls ≠ "java/lang/invoke/MethodHandle" ∧ (mt 12).1.cls ≠ "java/lang/invoke/VarHandle" ∧ (parseMethodDescriptor (mt 12).1.desc).map (fun d => d.parameters.length) = some 2 := ⟨by decide +kernel, by decide +kernel, by decide +kernel⟩
theorem cl_12 : (mt 12).2.2.1 ≤ 45 := by decide
theorem cz_13 : (mt 13).2.2.2.2 = [] := rfl
theorem cc_13 : Cond.code (mt 13).1 (mt 13).2.1 (mt 13).2.2.1 (mt 13).2.2.2.1 ∈ lw_g := mG 508 (by decide +kernel) rfl
theorem ci_13 : Cond.initialized (mt 13).1.cls ∈ lw_g := w_87
theorem cm_13 : Cond.instanceMethod (mt 13).1 ∈ lw_g := w_506
theorem cs_13 : Cond.selects (mt 13).1.cls (mt 13).1 (mt 13).1 ∈ lw_g := w_507
theorem cd_13 : (mt 13).1.cls ≠ "java/lang/invoke/MethodHandle" ∧ (mt 13).1.cls ≠ "java/lang/invoke/VarHandle" ∧ (parseMethodDescriptor (mt 13).1.desc).map (fun d => d.parameters.length) = some 0 := ⟨by decide +kernel, by decide +kernel, by decide +kernel⟩
theorem cl_13 : (mt 13).2.2.1 ≤ 45 := by decide
theorem cz_14 : (mt 14).2.2.2.2 = [] := rfl
theorem cc_14 : Cond.code (mt 14).1 (mt 14).2.1 (mt 14).2.2.1 (mt 14).2.2.2.1 ∈ lw_g := mG 1378 (by decide +kernel) rfl
theorem ci_14 : Cond.initialized (mt 14).1.cls ∈ lw_g := w_87
theorem cm_14 : Cond.instanceMethod (mt 14).1 ∈ lw_g := w_1376
theorem cs_14 : Cond.selects (mt 14).1.cls (mt 14).1 (mt 14).1 ∈ lw_g := w_1377
theorem cd_14 : (mt 14).1.cls ≠ "java/lang/invoke/MethodHandle" ∧ (mt 14).1.cls ≠ "java/lang/invoke/VarHandle" ∧ (parseMethodDescriptor (mt 14).1.desc).map (fun d => d.parameters.length) = some 1 := ⟨by decide +kernel, by decide +kernel, by decide +kernel⟩
theorem cl_14 : (mt 14).2.2.1 ≤ 45 := by decide
theorem cz_15 : (mt 15).2.2.2.2 = [] := rfl
theorem cc_15 : Cond.code (mt 15).1 (mt 15).2.1 (mt 15).2.2.1 (mt 15).2.2.2.1 ∈ lw_g := mG 727 (by decide +kernel) rfl
theorem ci_15 : Cond.initialized (mt 15).1.cls ∈ lw_g := w_87
theorem cm_15 : Cond.instanceMethod (mt 15).1 ∈ lw_g := w_725
theorem cs_15 : Cond.selects (mt 15).1.cls (mt 15).1 (mt 15).1 ∈ lw_g := w_726
theorem cd_15 : (mt 15).1.cls ≠ "java/lang/invoke/MethodHandle" ∧ (mt 15).1.cls ≠ "java/lang/invoke/VarHandle" ∧ (parseMethodDescriptor (mt 15).1.desc).map (fun d => d.parameters.length) = some 1 := ⟨by decide +kernel, by decide +kernel, by decide +kernel⟩
theorem cl_15 : (mt 15).2.2.1 ≤ 45 := by decide
theorem cz_16 : (mt 16).2.2.2.2 = [] := rfl
theorem cc_16 : Cond.code (mt 16).1 (mt 16).2.1 (mt 16).2.2.1 (mt 16).2.2.2.1 ∈ lw_g := mG 981 (by decide +kernel) rfl
theorem ci_16 : Cond.initialized (mt 16).1.cls ∈ lw_g := w_87
theorem cm_16 : Cond.instanceMethod (mt 16).1 ∈ lw_g := w_979
theorem cs_16 : Cond.selects (mt 16).1.cls (mt 16).1 (mt 16).1 ∈ lw_g := w_980
theorem cd_16 : (mt 16).1.cls ≠ "java/lang/invoke/MethodHandle" ∧ (mt 16).1.cls ≠ "java/lang/invoke/VarHandle" ∧ (parseMethodDescriptor (mt 16).1.desc).map (fun d => d.parameters.length) = some 1 := ⟨by decide +kernel, by decide +kernel, by decide +kernel⟩
theorem cl_16 : (mt 16).2.2.1 ≤ 45 := by decide
theorem cz_17 : (mt 17).2.2.2.2 = [] := rfl
theorem cc_17 : Cond.code (mt 17).1 (mt 17).2.1 (mt 17).2.2.1 (mt 17).2.2.2.1 ∈ lw_g := mG 977 (by decide +kernel) rfl
theorem ci_17 : Cond.initialized (mt 17).1.cls ∈ lw_g := w_87
theorem cm_17 : Cond.instanceMethod (mt 17).1 ∈ lw_g := w_975
theorem cs_17 : Cond.selects (mt 17).1.cls (mt 17).1 (mt 17).1 ∈ lw_g := w_976
theorem cd_17 : (mt 17).1.cls ≠ "java/lang/invoke/MethodHandle" ∧ (mt 17).1.cls ≠ "java/lang/invoke/VarHandle" ∧ (parseMethodDescriptor (mt 17).1.desc).map (fun d => d.parameters.length) = some 1 := ⟨by decide +kernel, by decide +kernel, by decide +kernel⟩
theorem cl_17 : (mt 17).2.2.1 ≤ 45 := by decide
theorem cz_18 : (mt 18).2.2.2.2 = [] := rfl
theorem cc_18 : Cond.code (mt 18).1 (mt 18).2.1 (mt 18).2.2.1 (mt 18).2.2.2.1 ∈ lw_g := mG 999 (by decide +kernel) rfl
theorem ci_18 : Cond.initialized (mt 18).1.cls ∈ lw_g := w_87
theorem cm_18 : Cond.instanceMethod (mt 18).1 ∈ lw_g := w_997
theorem cs_18 : Cond.selects (mt 18).1.cls (mt 18).1 (mt 18).1 ∈ lw_g := w_998
theorem cd_18 : (mt 18).1.cls ≠ "java/lang/invoke/MethodHandle" ∧ (mt 18).1.cls ≠ "java/lang/invoke/VarHandle" ∧ (parseMethodDescriptor (mt 18).1.desc).map (fun d => d.parameters.length) = some 1 := ⟨by decide +kernel, by decide +kernel, by decide +kernel⟩
theorem cl_18 : (mt 18).2.2.1 ≤ 45 := by decide
theorem cz_19 : (mt 19).2.2.2.2 = [] := rfl
theorem cc_19 : Cond.code (mt 19).1 (mt 19).2.1 (mt 19).2.2.1 (mt 19).2.2.2.1 ∈ lw_g := mG 1007 (by decide +kernel) rfl
theorem ci_19 : Cond.initialized (mt 19).1.cls ∈ lw_g := w_87
theorem cm_19 : Cond.instanceMethod (mt 19).1 ∈ lw_g := w_1005
theorem cs_19 : Cond.selects (mt 19).1.cls (mt 19).1 (mt 19).1 ∈ lw_g := w_1006
theorem cd_19 : (mt 19).1.cls ≠ "java/lang/invoke/MethodHandle" ∧ (mt 19).1.cls ≠ "java/lang/invoke/VarHandle" ∧ (parseMethodDescriptor (mt 19).1.desc).map (fun d => d.parameters.length) = some 1 := ⟨by decide +kernel, by decide +kernel, by decide +kernel⟩
theorem cl_19 : (mt 19).2.2.1 ≤ 45 := by decide
theorem cz_20 : (mt 20).2.2.2.2 = [] := rfl
theorem cc_20 : Cond.code (mt 20).1 (mt 20).2.1 (mt 20).2.2.1 (mt 20).2.2.2.1 ∈ lw_g := mG 395 (by decide +kernel) rfl
theorem ci_20 : Cond.initialized (mt 20).1.cls ∈ lw_g := w_95
theorem cm_20 : Cond.instanceMethod (mt 20).1 ∈ lw_g := w_394
theorem cd_20 : (mt 20).1.cls ≠ "java/lang/invoke/MethodHandle" ∧ (mt 20).1.cls ≠ "java/lang/invoke/VarHandle" ∧ (parseMethodDescriptor (mt 20).1.desc).map (fun d => d.parameters.length) = some 4 := ⟨by decide +kernel, by decide +kernel, by decide +kernel⟩
theorem cl_20 : (mt 20).2.2.1 ≤ 45 := by decide
theorem cz_21 : (mt 21).2.2.2.2 = [] := rfl
theorem cc_21 : Cond.code (mt 21).1 (mt 21).2.1 (mt 21).2.2.1 (mt 21).2.2.2.1 ∈ lw_g := mG 516 (by decide +kernel) rfl
theorem ci_21 : Cond.initialized (mt 21).1.cls ∈ lw_g := w_95
theorem cm_21 : Cond.instanceMethod (mt 21).1 ∈ lw_g := w_514
theorem cs_21 : Cond.selects (mt 21).1.cls (mt 21).1 (mt 21).1 ∈ lw_g := w_515
theorem cd_21 : (mt 21).1.cls ≠ "java/lang/invoke/MethodHandle" ∧ (mt 21).1.cls ≠ "java/lang/invoke/VarHandle" ∧ (parseMethodDescriptor (mt 21).1.desc).map (fun d => d.parameters.length) = some 0 := ⟨by decide +kernel, by decide +kernel, by decide +kernel⟩
theorem cl_21 : (mt 21).2.2.1 ≤ 45 := by decide
theorem cz_22 : (mt 22).2.2.2.2 = [] := rfl
theorem cc_22 : Cond.code (mt 22).1 (mt 22).2.1 (mt 22).2.2.1 (mt 22).2.2.2.1 ∈ lw_g := mG 520 (by decide +kernel) rfl
theorem ci_22 : Cond.initialized (mt 22).1.cls ∈ lw_g := w_95
theorem cm_22 : Cond.instanceMethod (mt 22).1 ∈ lw_g := w_518
theorem cs_22 : Cond.selects (mt 22).1.cls (mt 22).1 (mt 22).1 ∈ lw_g := w_519
theorem cd_22 : (mt 22).1.cls ≠ "java/lang/invoke/MethodHandle" ∧ (mt 22).1.cls ≠ "java/lang/invoke/VarHandle" ∧ (parseMethodDescriptor (mt 22).1.desc).map (fun d => d.parameters.length) = some 0 := ⟨by decide +kernel, by decide +kernel, by decide +kernel⟩
theorem cl_22 : (mt 22).2.2.1 ≤ 45 := by decide
theorem cz_23 : (mt 23).2.2.2.2 = [] := rfl
theorem cc_23 : Cond.code (mt 23).1 (mt 23).2.1 (mt 23).2.2.1 (mt 23).2.2.2.1 ∈ lw_g := mG 1220 (by decide +kernel) rfl
theorem ci_23 : Cond.initialized (mt 23).1.cls ∈ lw_g := w_95
theorem cm_23 : Cond.instanceMethod (mt 23).1 ∈ lw_g := w_1218
theorem cs_23 : Cond.selects (mt 23).1.cls (mt 23).1 (mt 23).1 ∈ lw_g := w_1219
theorem cd_23 : (mt 23).1.cls ≠ "java/lang/invoke/MethodHandle" ∧ (mt 23).1.cls ≠ "java/lang/invoke/VarHandle" ∧ (parseMethodDescriptor (mt 23).1.desc).map (fun d => d.parameters.length) = some 0 := ⟨by decide +kernel, by decide +kernel, by decide +kernel⟩
theorem cl_23 : (mt 23).2.2.1 ≤ 45 := by decide
theorem cz_24 : (mt 24).2.2.2.2 = [] := rfl
theorem cc_24 : Cond.code (mt 24).1 (mt 24).2.1 (mt 24).2.2.1 (mt 24).2.2.2.1 ∈ lw_g := mG 1224 (by decide +kernel) rfl
theorem ci_24 : Cond.initialized (mt 24).1.cls ∈ lw_g := w_95
theorem cm_24 : Cond.instanceMethod (mt 24).1 ∈ lw_g := w_1222
theorem cs_24 : Cond.selects (mt 24).1.cls (mt 24).1 (mt 24).1 ∈ lw_g := w_1223
theorem cd_24 : (mt 24).1.cls ≠ "java/lang/invoke/MethodHandle" ∧ (mt 24).1.cls ≠ "java/lang/invoke/VarHandle" ∧ (parseMethodDescriptor (mt 24).1.desc).map (fun d => d.parameters.length) = some 1 := ⟨by decide +kernel, by decide +kernel, by decide +kernel⟩
theorem cl_24 : (mt 24).2.2.1 ≤ 45 := by decide
theorem cz_25 : (mt 25).2.2.2.2 = [] := rfl
theorem cc_25 : Cond.code (mt 25).1 (mt 25).2.1 (mt 25).2.2.1 (mt 25).2.2.2.1 ∈ lw_g := mG 764 (by decide +kernel) rfl
theorem ci_25 : Cond.initialized (mt 25).1.cls ∈ lw_g := w_95
theorem cm_25 : Cond.instanceMethod (mt 25).1 ∈ lw_g := w_762
theorem cs_25 : Cond.selects (mt 25).1.cls (mt 25).1 (mt 25).1 ∈ lw_g := w_763
theorem cd_25 : (mt 25).1.cls ≠ "java/lang/invoke/MethodHandle" ∧ (mt 25).1.cls ≠ "java/lang/invoke/VarHandle" ∧ (parseMethodDescriptor (mt 25).1.desc).map (fun d => d.parameters.length) = some 1 := ⟨by decide +kernel, by decide +kernel, by decide +kernel⟩
theorem cl_25 : (mt 25).2.2.1 ≤ 45 := by decide
theorem cz_26 : (mt 26).2.2.2.2 = [] := rfl
theorem cc_26 : Cond.code (mt 26).1 (mt 26).2.1 (mt 26).2.2.1 (mt 26).2.2.2.1 ∈ lw_g := mG 768 (by decide +kernel) rfl
theorem ci_26 : Cond.initialized (mt 26).1.cls ∈ lw_g := w_95
theorem cm_26 : Cond.instanceMethod (mt 26).1 ∈ lw_g := w_766
theorem cs_26 : Cond.selects (mt 26).1.cls (mt 26).1 (mt 26).1 ∈ lw_g := w_767
theorem cd_26 : (mt 26).1.cls ≠ "java/lang/invoke/MethodHandle" ∧ (mt 26).1.cls ≠ "java/lang/invoke/VarHandle" ∧ (parseMethodDescriptor (mt 26).1.desc).map (fun d => d.parameters.length) = some 1 := ⟨by decide +kernel, by decide +kernel, by decide +kernel⟩
theorem cl_26 : (mt 26).2.2.1 ≤ 45 := by decide
theorem cz_27 : (mt 27).2.2.2.2 = [] := rfl
theorem cc_27 : Cond.code (mt 27).1 (mt 27).2.1 (mt 27).2.2.1 (mt 27).2.2.2.1 ∈ lw_g := mG 599 (by decide +kernel) rfl
theorem ci_27 : Cond.initialized (mt 27).1.cls ∈ lw_g := w_95
theorem cm_27 : Cond.instanceMethod (mt 27).1 ∈ lw_g := w_597
theorem cs_27 : Cond.selects (mt 27).1.cls (mt 27).1 (mt 27).1 ∈ lw_g := w_598
theorem cd_27 : (mt 27).1.cls ≠ "java/lang/invoke/MethodHandle" ∧ (mt 27).1.cls ≠ "java/lang/invoke/VarHandle" ∧ (parseMethodDescriptor (mt 27).1.desc).map (fun d => d.parameters.length) = some 1 := ⟨by decide +kernel, by decide +kernel, by decide +kernel⟩
theorem cl_27 : (mt 27).2.2.1 ≤ 45 := by decide
theorem cz_28 : (mt 28).2.2.2.2 = [] := rfl
theorem cc_28 : Cond.code (mt 28).1 (mt 28).2.1 (mt 28).2.2.1 (mt 28).2.2.2.1 ∈ lw_g := mG 595 (by decide +kernel) rfl
theorem ci_28 : Cond.initialized (mt 28).1.cls ∈ lw_g := w_95
theorem cm_28 : Cond.instanceMethod (mt 28).1 ∈ lw_g := w_593
theorem cs_28 : Cond.selects (mt 28).1.cls (mt 28).1 (mt 28).1 ∈ lw_g := w_594
theorem cd_28 : (mt 28).1.cls ≠ "java/lang/invoke/MethodHandle" ∧ (mt 28).1.cls ≠ "java/lang/invoke/VarHandle" ∧ (parseMethodDescriptor (mt 28).1.desc).map (fun d => d.parameters.length) = some 0 := ⟨by decide +kernel, by decide +kernel, by decide +kernel⟩
theorem cl_28 : (mt 28).2.2.1 ≤ 45 := by decide
theorem cz_29 : (mt 29).2.2.2.2 = [] := rfl
theorem cc_29 : Cond.code (mt 29).1 (mt 29).2.1 (mt 29).2.2.1 (mt 29).2.2.2.1 ∈ lw_g := mG 795 (by decide +kernel) rfl
theorem ci_29 : Cond.initialized (mt 29).1.cls ∈ lw_g := w_95
theorem cm_29 : Cond.instanceMethod (mt 29).1 ∈ lw_g := w_793
theorem cs_29 : Cond.selects (mt 29).1.cls (mt 29).1 (mt 29).1 ∈ lw_g := w_794
theorem cd_29 : (mt 29).1.cls ≠ "java/lang/invoke/MethodHandle" ∧ (mt 29).1.cls ≠ "java/lang/invoke/VarHandle" ∧ (parseMethodDescriptor (mt 29).1.desc).map (fun d => d.parameters.length) = some 1 := ⟨by decide +kernel, by decide +kernel, by decide +kernel⟩
theorem cl_29 : (mt 29).2.2.1 ≤ 45 := by decide
theorem cz_30 : (mt 30).2.2.2.2 = [] := rfl
theorem cc_30 : Cond.code (mt 30).1 (mt 30).2.1 (mt 30).2.2.1 (mt 30).2.2.2.1 ∈ lw_g := mG 1196 (by decide +kernel) rfl
theorem ci_30 : Cond.initialized (mt 30).1.cls ∈ lw_g := w_95
theorem cm_30 : Cond.instanceMethod (mt 30).1 ∈ lw_g := w_1194
theorem cs_30 : Cond.selects (mt 30).1.cls (mt 30).1 (mt 30).1 ∈ lw_g := w_1195
theorem cd_30 : (mt 30).1.cls ≠ "java/lang/invoke/MethodHandle" ∧ (mt 30).1.cls ≠ "java/lang/invoke/VarHandle" ∧ (parseMethodDescriptor (mt 30).1.desc).map (fun d => d.parameters.length) = some 1 := ⟨by decide +kernel, by decide +kernel, by decide +kernel⟩
theorem cl_30 : (mt 30).2.2.1 ≤ 45 := by decide
theorem cz_31 : (mt 31).2.2.2.2 = [] := rfl
theorem cc_31 : Cond.code (mt 31).1 (mt 31).2.1 (mt 31).2.2.1 (mt 31).2.2.2.1 ∈ lw_g := mG 1157 (by decide +kernel) rfl
theorem ci_31 : Cond.initialized (mt 31).1.cls ∈ lw_g := w_95
theorem cm_31 : Cond.instanceMethod (mt 31).1 ∈ lw_g := w_1155
theorem cs_31 : Cond.selects (mt 31).1.cls (mt 31).1 (mt 31).1 ∈ lw_g := w_1156
theorem cd_31 : (mt 31).1.cls ≠ "java/lang/invoke/MethodHandle" ∧ (mt 31).1.cls ≠ "java/lang/invoke/VarHandle" ∧ (parseMethodDescriptor (mt 31).1.desc).map (fun d => d.parameters.length) = some 2 := ⟨by decide +kernel, by decide +kernel, by decide +kernel⟩
theorem cl_31 : (mt 31).2.2.1 ≤ 45 := by decide
theorem cz_32 : (mt 32).2.2.2.2 = [] := rfl
theorem cc_32 : Cond.code (mt 32).1 (mt 32).2.1 (mt 32).2.2.1 (mt 32).2.2.2.1 ∈ lw_g := mG 1125 (by decide +kernel) rfl
theorem ci_32 : Cond.initialized (mt 32).1.cls ∈ lw_g := w_95
theorem cm_32 : Cond.instanceMethod (mt 32).1 ∈ lw_g := w_1123
theorem cs_32 : Cond.selects (mt 32).1.cls (mt 32).1 (mt 32).1 ∈ lw_g := w_1124
theorem cd_32 : (mt 32).1.cls ≠ "java/lang/invoke/MethodHandle" ∧ (mt 32).1.cls ≠ "java/lang/invoke/VarHandle" ∧ (parseMethodDescriptor (mt 32).1.desc).map (fun d => d.parameters.length) = some 1 := ⟨by decide +kernel, by decide +kernel, by decide +kernel⟩
theorem cl_32 : (mt 32).2.2.1 ≤ 45 := by decide
theorem cz_33 : (mt 33).2.2.2.2 = [] := rfl
theorem cc_33 : Cond.code (mt 33).1 (mt 33).2.1 (mt 33).2.2.1 (mt 33).2.2.2.1 ∈ lw_g := mG 1129 (by decide +kernel) rfl
theorem ci_33 : Cond.initialized (mt 33).1.cls ∈ lw_g := w_95
theorem cm_33 : Cond.instanceMethod (mt 33).1 ∈ lw_g := w_1128
theorem cs_33 : Cond.selects (mt 33).1.cls (mt 33).1 (mt 33).1 ∈ lw_g := w_21
theorem cd_33 : (mt 33).1.cls ≠ "java/lang/invoke/MethodHandle" ∧ (mt 33).1.cls ≠ "java/lang/invoke/VarHandle" ∧ (parseMethodDescriptor (mt 33).1.desc).map (fun d => d.parameters.length) = some 0 := ⟨by decide +kernel, by decide +kernel, by decide +kernel⟩
theorem cl_33 : (mt 33).2.2.1 ≤ 45 := by decide
theorem cz_34 : (mt 34).2.2.2.2 = [] := rfl
theorem cc_34 : Cond.code (mt 34).1 (mt 34).2.1 (mt 34).2.2.1 (mt 34).2.2.2.1 ∈ lw_g := mG 1137 (by decide +kernel) rfl
theorem ci_34 : Cond.initialized (mt 34).1.cls ∈ lw_g := w_95
theorem cm_34 : Cond.instanceMethod (mt 34).1 ∈ lw_g := w_1136
theorem cs_34 : Cond.selects (mt 34).1.cls (mt 34).1 (mt 34).1 ∈ lw_g := w_22
theorem cd_34 : (mt 34).1.cls ≠ "java/lang/invoke/MethodHandle" ∧ (mt 34).1.cls ≠ "java/lang/invoke/VarHandle" ∧ (parseMethodDescriptor (mt 34).1.desc).map (fun d => d.parameters.length) = some 1 := ⟨by decide +kernel, by decide +kernel, by decide +kernel⟩
theorem cl_34 : (mt 34).2.2.1 ≤ 45 := by decide
theorem cz_35 : (mt 35).2.2.2.2 = [] := rfl
theorem cc_35 : Cond.code (mt 35).1 (mt 35).2.1 (mt 35).2.2.1 (mt 35).2.2.2.1 ∈ lw_g := mG 1145 (by decide +kernel) rfl
theorem ci_35 : Cond.initialized (mt 35).1.cls ∈ lw_g := w_95
theorem cm_35 : Cond.instanceMethod (mt 35).1 ∈ lw_g := w_1144
theorem cs_35 : Cond.selects (mt 35).1.cls (mt 35).1 (mt 35).1 ∈ lw_g := w_23
theorem cd_35 : (mt 35).1.cls ≠ "java/lang/invoke/MethodHandle" ∧ (mt 35).1.cls ≠ "java/lang/invoke/VarHandle" ∧ (parseMethodDescriptor (mt 35).1.desc).map (fun d => d.parameters.length) = some 0 := ⟨by decide +kernel, by decide +kernel, by decide +kernel⟩
theorem cl_35 : (mt 35).2.2.1 ≤ 45 := by decide
theorem cz_36 : (mt 36).2.2.2.2 = [] := rfl
theorem cc_36 : Cond.code (mt 36).1 (mt 36).2.1 (mt 36).2.2.1 (mt 36).2.2.2.1 ∈ lw_g := mG 1161 (by decide +kernel) rfl
theorem ci_36 : Cond.initialized (mt 36).1.cls ∈ lw_g := w_95
theorem cm_36 : Cond.instanceMethod (mt 36).1 ∈ lw_g := w_1160
theorem cs_36 : Cond.selects (mt 36).1.cls (mt 36).1 (mt 36).1 ∈ lw_g := w_25
theorem cd_36 : (mt 36).1.cls ≠ "java/lang/invoke/MethodHandle" ∧ (mt 36).1.cls ≠ "java/lang/invoke/VarHandle" ∧ (parseMethodDescriptor (mt 36).1.desc).map (fun d => d.parameters.length) = some 0 := ⟨by decide +kernel, by decide +kernel, by decide +kernel⟩
theorem cl_36 : (mt 36).2.2.1 ≤ 45 := by decide
theorem cz_37 : (mt 37).2.2.2.2 = [] := rfl
theorem cc_37 : Cond.code (mt 37).1 (mt 37).2.1 (mt 37).2.2.1 (mt 37).2.2.2.1 ∈ lw_g := mG 1177 (by decide +kernel) rfl
theorem ci_37 : Cond.initialized (mt 37).1.cls ∈ lw_g := w_95
theorem cm_37 : Cond.instanceMethod (mt 37).1 ∈ lw_g := w_1176
theorem cs_37 : Cond.selects (mt 37).1.cls (mt 37).1 (mt 37).1 ∈ lw_g := w_26
theorem cd_37 : (mt 37).1.cls ≠ "java/lang/invoke/MethodHandle" ∧ (mt 37).1.cls ≠ "java/lang/invoke/VarHandle" ∧ (parseMethodDescriptor (mt 37).1.desc).map (fun d => d.parameters.length) = some 0 := ⟨by decide +kernel, by decide +kernel, by decide +kernel⟩
theorem cl_37 : (mt 37).2.2.1 ≤ 45 := by decide
theorem cz_38 : (mt 38).2.2.2.2 = [] := rfl
theorem cc_38 : Cond.code (mt 38).1 (mt 38).2.1 (mt 38).2.2.1 (mt 38).2.2.2.1 ∈ lw_g := mG 1153 (by decide +kernel) rfl
theorem ci_38 : Cond.initialized (mt 38).1.cls ∈ lw_g := w_95
theorem cm_38 : Cond.instanceMethod (mt 38).1 ∈ lw_g := w_1152
theorem cs_38 : Cond.selects (mt 38).1.cls (mt 38).1 (mt 38).1 ∈ lw_g := w_24
theorem cd_38 : (mt 38).1.cls ≠ "java/lang/invoke/MethodHandle" ∧ (mt 38).1.cls ≠ "java/lang/invoke/VarHandle" ∧ (parseMethodDescriptor (mt 38).1.desc).map (fun d => d.parameters.length) = some 2 := ⟨by decide +kernel, by decide +kernel, by decide +kernel⟩
theorem cl_38 : (mt 38).2.2.1 ≤ 45 := by decide
theorem cz_39 : (mt 39).2.2.2.2 = [] := rfl
theorem cc_39 : Cond.code (mt 39).1 (mt 39).2.1 (mt 39).2.2.1 (mt 39).2.2.2.1 ∈ lw_g := mG 1186 (by decide +kernel) rfl
theorem ci_39 : Cond.initialized (mt 39).1.cls ∈ lw_g := w_95
theorem cm_39 : Cond.instanceMethod (mt 39).1 ∈ lw_g := w_1185
theorem cs_39 : Cond.selects (mt 39).1.cls (mt 39).1 (mt 39).1 ∈ lw_g := w_27
theorem cd_39 : (mt 39).1.cls ≠ "java/lang/invoke/MethodHandle" ∧ (mt 39).1.cls ≠ "java/lang/invoke/VarHandle" ∧ (parseMethodDescriptor (mt 39).1.desc).map (fun d => d.parameters.length) = some 1 := ⟨by decide +kernel, by decide +kernel, by decide +kernel⟩
theorem cl_39 : (mt 39).2.2.1 ≤ 45 := by decide
theorem cz_40 : (mt 40).2.2.2.2 = [] := rfl
theorem cc_40 : Cond.code (mt 40).1 (mt 40).2.1 (mt 40).2.2.1 (mt 40).2.2.2.1 ∈ lw_g := mG 1190 (by decide +kernel) rfl
theorem ci_40 : Cond.initialized (mt 40).1.cls ∈ lw_g := w_95
theorem cm_40 : Cond.instanceMethod (mt 40).1 ∈ lw_g := w_1189
theorem cs_40 : Cond.selects (mt 40).1.cls (mt 40).1 (mt 40).1 ∈ lw_g := w_28
theorem cd_40 : (mt 40).1.cls ≠ "java/lang/invoke/MethodHandle" ∧ (mt 40).1.cls ≠ "java/lang/invoke/VarHandle" ∧ (parseMethodDescriptor (mt 40).1.desc).map (fun d => d.parameters.length) = some 2 := ⟨by decide +kernel, by decide +kernel, by decide +kernel⟩
theorem cl_40 : (mt 40).2.2.1 ≤ 45 := by decide
theorem cz_41 : (mt 41).2.2.2.2 = [] := rfl
theorem cc_41 : Cond.code (mt 41).1 (mt 41).2.1 (mt 41).2.2.1 (mt 41).2.2.2.1 ∈ lw_g := mG 208 (by decide +kernel) rfl
theorem ci_41 : Cond.initialized (mt 41).1.cls ∈ lw_g := w_88
theorem cm_41 : Cond.instanceMethod (mt 41).1 ∈ lw_g := w_207
theorem cd_41 : (mt 41).1.cls ≠ "java/lang/invoke/MethodHandle" ∧ (mt 41).1.cls ≠ "java/lang/invoke/VarHandle" ∧ (parseMethodDescriptor (mt 41).1.desc).map (fun d => d.parameters.length) = some 0 := ⟨by decide +kernel, by decide +kernel, by decide +kernel⟩
theorem cl_41 : (mt 41).2.2.1 ≤ 45 := by decide
theorem cz_42 : (mt 42).2.2.2.2 = [] := rfl
theorem cc_42 : Cond.code (mt 42).1 (mt 42).2.1 (mt 42).2.2.1 (mt 42).2.2.2.1 ∈ lw_g := mG 545 (by decide +kernel) rfl
theorem ci_42 : Cond.initialized (mt 42).1.cls ∈ lw_g := w_88
theorem cm_42 : Cond.instanceMethod (mt 42).1 ∈ lw_g := w_543
theorem cs_42 : Cond.selects (mt 42).1.cls (mt 42).1 (mt 42).1 ∈ lw_g := w_544
theorem cd_42 : (mt 42).1.cls ≠ "java/lang/invoke/MethodHandle" ∧ (mt 42).1.cls ≠ "java/lang/invoke/VarHandle" ∧ (parseMethodDescriptor (mt 42).1.desc).map (fun d => d.parameters.length) = some 0 := ⟨by decide +kernel, by decide +kernel, by decide +kernel⟩
theorem cl_42 : (mt 42).2.2.1 ≤ 45 := by decide
theorem cz_43 : (mt 43).2.2.2.2 = [] := rfl
theorem cc_43 : Cond.code (mt 43).1 (mt 43).2.1 (mt 43).2.2.1 (mt 43).2.2.2.1 ∈ lw_g := mG 1452 (by decide +kernel) rfl
theorem ci_43 : Cond.initialized (mt 43).1.cls ∈ lw_g := w_88
theorem cm_43 : Cond.instanceMethod (mt 43).1 ∈ lw_g := w_1450
theorem cs_43 : Cond.selects (mt 43).1.cls (mt 43).1 (mt 43).1 ∈ lw_g := w_1451
theorem cd_43 : (mt 43).1.cls ≠ "java/lang/invoke/MethodHandle" ∧ (mt 43).1.cls ≠ "java/lang/invoke/VarHandle" ∧ (parseMethodDescriptor (mt 43).1.desc).map (fun d => d.parameters.length) = some 0 := ⟨by decide +kernel, by decide +kernel, by decide +kernel⟩
theorem cl_43 : (mt 43).2.2.1 ≤ 45 := by decide
theorem cz_44 : (mt 44).2.2.2.2 = [] := rfl
theorem cc_44 : Cond.code (mt 44).1 (mt 44).2.1 (mt 44).2.2.1 (mt 44).2.2.2.1 ∈ lw_g := mG 565 (by decide +kernel) rfl
theorem ci_44 : Cond.initialized (mt 44).1.cls ∈ lw_g := w_88
theorem cm_44 : Cond.instanceMethod (mt 44).1 ∈ lw_g := w_563
theorem cs_44 : Cond.selects (mt 44).1.cls (mt 44).1 (mt 44).1 ∈ lw_g := w_564
theorem cd_44 : (mt 44).1.cls ≠ "java/lang/invoke/MethodHandle" ∧ (mt 44).1.cls ≠ "java/lang/invoke/VarHandle" ∧ (parseMethodDescriptor (mt 44).1.desc).map (fun d => d.parameters.length) = some 1 := ⟨by decide +kernel, by decide +kernel, by decide +kernel⟩
theorem cl_44 : (mt 44).2.2.1 ≤ 45 := by decide
theorem cz_45 : (mt 45).2.2.2.2 = [] := rfl
theorem cc_45 : Cond.code (mt 45).1 (mt 45).2.1 (mt 45).2.2.1 (mt 45).2.2.2.1 ∈ lw_g := mG 843 (by decide +kernel) rfl
theorem ci_45 : Cond.initialized (mt 45).1.cls ∈ lw_g := w_88
theorem cm_45 : Cond.instanceMethod (mt 45).1 ∈ lw_g := w_841
theorem cs_45 : Cond.selects (mt 45).1.cls (mt 45).1 (mt 45).1 ∈ lw_g := w_842
theorem cd_45 : (mt 45).1.cls ≠ "java/lang/invoke/MethodHandle" ∧ (mt 45).1.cls ≠ "java/lang/invoke/VarHandle" ∧ (parseMethodDescriptor (mt 45).1.desc).map (fun d => d.parameters.length) = some 1 := ⟨by decide +kernel, by decide +kernel, by decide +kernel⟩
theorem cl_45 : (mt 45).2.2.1 ≤ 45 := by decide
theorem cz_46 : (mt 46).2.2.2.2 = [] := rfl
theorem cc_46 : Cond.code (mt 46).1 (mt 46).2.1 (mt 46).2.2.1 (mt 46).2.2.2.1 ∈ lw_g := mG 855 (by decide +kernel) rfl
theorem ci_46 : Cond.initialized (mt 46).1.cls ∈ lw_g := w_88
theorem cm_46 : Cond.instanceMethod (mt 46).1 ∈ lw_g := w_853
theorem cs_46 : Cond.selects (mt 46).1.cls (mt 46).1 (mt 46).1 ∈ lw_g := w_854
theorem cd_46 : (mt 46).1.cls ≠ "java/lang/invoke/MethodHandle" ∧ (mt 46).1.cls ≠ "java/lang/invoke/VarHandle" ∧ (parseMethodDescriptor (mt 46).1.desc).map (fun d => d.parameters.length) = some 1 := ⟨by decide +kernel, by decide +kernel, by decide +kernel⟩
theorem cl_46 : (mt 46).2.2.1 ≤ 45 := by decide
theorem cz_47 : (mt 47).2.2.2.2 = [] := rfl
theorem cc_47 : Cond.code (mt 47).1 (mt 47).2.1 (mt 47).2.2.1 (mt 47).2.2.2.1 ∈ lw_g := mG 847 (by decide +kernel) rfl
theorem ci_47 : Cond.initialized (mt 47).1.cls ∈ lw_g := w_88
theorem cm_47 : Cond.instanceMethod (mt 47).1 ∈ lw_g := w_845
theorem cs_47 : Cond.selects (mt 47).1.cls (mt 47).1 (mt 47).1 ∈ lw_g := w_846
theorem cd_47 : (mt 47).1.cls ≠ "java/lang/invoke/MethodHandle" ∧ (mt 47).1.cls ≠ "java/lang/invoke/VarHandle" ∧ (parseMethodDescriptor (mt 47).1.desc).map (fun d => d.parameters.length) = some 1 := ⟨by decide +kernel, by decide +kernel, by decide +kernel⟩
theorem cl_47 : (mt 47).2.2.1 ≤ 45 := by decide
theorem cz_48 : (mt 48).2.2.2.2 = [] := rfl
theorem cc_48 : Cond.code (mt 48).1 (mt 48).2.1 (mt 48).2.2.1 (mt 48).2.2.2.1 ∈ lw_g := mG 851 (by decide +kernel) rfl
theorem ci_48 : Cond.initialized (mt 48).1.cls ∈ lw_g := w_88
theorem cm_48 : Cond.instanceMethod (mt 48).1 ∈ lw_g := w_849
theorem cs_48 : Cond.selects (mt 48).1.cls (mt 48).1 (mt 48).1 ∈ lw_g := w_850
theorem cd_48 : (mt 48).1.cls ≠ "java/lang/invoke/MethodHandle" ∧ (mt 48).1.cls ≠ "java/lang/invoke/VarHandle" ∧ (parseMethodDescriptor (mt 48).1.desc).map (fun d => d.parameters.length) = some 1 := ⟨by decide +kernel, by decide +kernel, by decide +kernel⟩
theorem cl_48 : (mt 48).2.2.1 ≤ 45 := by decide
theorem cz_49 : (mt 49).2.2.2.2 = [] := rfl
theorem cc_49 : Cond.code (mt 49).1 (mt 49).2.1 (mt 49).2.2.1 (mt 49).2.2.2.1 ∈ lw_g := mG 859 (by decide +kernel) rfl
theorem ci_49 : Cond.initialized (mt 49).1.cls ∈ lw_g := w_88
theorem cm_49 : Cond.instanceMethod (mt 49).1 ∈ lw_g := w_857
theorem cs_49 : Cond.selects (mt 49).1.cls (mt 49).1 (mt 49).1 ∈ lw_g := w_858
theorem cd_49 : (mt 49).1.cls ≠ "java/lang/invoke/MethodHandle" ∧ (mt 49).1.cls ≠ "java/lang/invoke/VarHandle" ∧ (parseMethodDescriptor (mt 49).1.desc).map (fun d => d.parameters.length) = some 1 := ⟨by decide +kernel, by decide +kernel, by decide +kernel⟩
theorem cl_49 : (mt 49).2.2.1 ≤ 45 := by decide
theorem cz_50 : (mt 50).2.2.2.2 = [] := rfl
theorem cc_50 : Cond.code (mt 50).1 (mt 50).2.1 (mt 50).2.2.1 (mt 50).2.2.2.1 ∈ lw_g := mG 561 (by decide +kernel) rfl
theorem ci_50 : Cond.initialized (mt 50).1.cls ∈ lw_g := w_88
theorem cm_50 : Cond.instanceMethod (mt 50).1 ∈ lw_g := w_559
theorem cs_50 : Cond.selects (mt 50).1.cls (mt 50).1 (mt 50).1 ∈ lw_g := w_560
theorem cd_50 : (mt 50).1.cls ≠ "java/lang/invoke/MethodHandle" ∧ (mt 50).1.cls ≠ "java/lang/invoke/VarHandle" ∧ (parseMethodDescriptor (mt 50).1.desc).map (fun d => d.parameters.length) = some 1 := ⟨by decide +kernel, by decide +kernel, by decide +kernel⟩
theorem cl_50 : (mt 50).2.2.1 ≤ 45 := by decide
theorem cz_51 : (mt 51).2.2.2.2 = [] := rfl
theorem cc_51 : Cond.code (mt 51).1 (mt 51).2.1 (mt 51).2.2.1 (mt 51).2.2.2.1 ∈ lw_g := mG 557 (by decide +kernel) rfl
theorem ci_51 : Cond.initialized (mt 51).1.cls ∈ lw_g := w_88
theorem cm_51 : Cond.instanceMethod (mt 51).1 ∈ lw_g := w_555
theorem cs_51 : Cond.selects (mt 51).1.cls (mt 51).1 (mt 51).1 ∈ lw_g := w_556
theorem cd_51 : (mt 51).1.cls ≠ "java/lang/invoke/MethodHandle" ∧ (mt 51).1.cls ≠ "java/lang/invoke/VarHandle" ∧ (parseMethodDescriptor (mt 51).1.desc).map (fun d => d.parameters.length) = some 1 := ⟨by decide +kernel, by decide +kernel, by decide +kernel⟩
theorem cl_51 : (mt 51).2.2.1 ≤ 45 := by decide
theorem cz_52 : (mt 52).2.2.2.2 = [] := rfl
theorem cc_52 : Cond.code (mt 52).1 (mt 52).2.1 (mt 52).2.2.1 (mt 52).2.2.2.1 ∈ lw_g := mG 902 (by decide +kernel) rfl
theorem ci_52 : Cond.initialized (mt 52).1.cls ∈ lw_g := w_88
theorem cm_52 : Cond.instanceMethod (mt 52).1 ∈ lw_g := w_900
theorem cs_52 : Cond.selects (mt 52).1.cls (mt 52).1 (mt 52).1 ∈ lw_g := w_901
theorem cd_52 : (mt 52).1.cls ≠ "java/lang/invoke/MethodHandle" ∧ (mt 52).1.cls ≠ "java/lang/invoke/VarHandle" ∧ (parseMethodDescriptor (mt 52).1.desc).map (fun d => d.parameters.length) = some 2 := ⟨by decide +kernel, by decide +kernel, by decide +kernel⟩
theorem cl_52 : (mt 52).2.2.1 ≤ 45 := by decide
theorem cz_53 : (mt 53).2.2.2.2 = [] := rfl
theorem cc_53 : Cond.code (mt 53).1 (mt 53).2.1 (mt 53).2.2.1 (mt 53).2.2.2.1 ∈ lw_g := mG 908 (by decide +kernel) rfl
theorem ci_53 : Cond.initialized (mt 53).1.cls ∈ lw_g := w_88
theorem cm_53 : Cond.instanceMethod (mt 53).1 ∈ lw_g := w_906
theorem cs_53 : Cond.selects (mt 53).1.cls (mt 53).1 (mt 53).1 ∈ lw_g := w_907
theorem cd_53 : (mt 53).1.cls ≠ "java/lang/invoke/MethodHandle" ∧ (mt 53).1.cls ≠ "java/lang/invoke/VarHandle" ∧ (parseMethodDescriptor (mt 53).1.desc).map (fun d => d.parameters.length) = some 2 := ⟨by decide +kernel, by decide +kernel, by decide +kernel⟩
theorem cl_53 : (mt 53).2.2.1 ≤ 45 := by decide
theorem cz_54 : (mt 54).2.2.2.2 = [] := rfl
theorem cc_54 : Cond.code (mt 54).1 (mt 54).2.1 (mt 54).2.2.1 (mt 54).2.2.2.1 ∈ lw_g := mG 898 (by decide +kernel) rfl
theorem ci_54 : Cond.initialized (mt 54).1.cls ∈ lw_g := w_88
theorem cm_54 : Cond.instanceMethod (mt 54).1 ∈ lw_g := w_896
theorem cs_54 : Cond.selects (mt 54).1.cls (mt 54).1 (mt 54).1 ∈ lw_g := w_897
theorem cd_54 : (mt 54).1.cls ≠ "java/lang/invoke/MethodHandle" ∧ (mt 54).1.cls ≠ "java/lang/invoke/VarHandle" ∧ (parseMethodDescriptor (mt 54).1.desc).map (fun d => d.parameters.length) = some 2 := ⟨by decide +kernel, by decide +kernel, by decide +kernel⟩
theorem cl_54 : (mt 54).2.2.1 ≤ 45 := by decide
theorem cz_55 : (mt 55).2.2.2.2 = [] := rfl
theorem cc_55 : Cond.code (mt 55).1 (mt 55).2.1 (mt 55).2.2.1 (mt 55).2.2.2.1 ∈ lw_g := mG 913 (by decide +kernel) rfl
theorem ci_55 : Cond.initialized (mt 55).1.cls ∈ lw_g := w_88
theorem cm_55 : Cond.instanceMethod (mt 55).1 ∈ lw_g := w_911
theorem cs_55 : Cond.selects (mt 55).1.cls (mt 55).1 (mt 55).1 ∈ lw_g := w_912
theorem cd_55 : (mt 55).1.cls ≠ "java/lang/invoke/MethodHandle" ∧ (mt 55).1.cls ≠ "java/lang/invoke/VarHandle" ∧ (parseMethodDescriptor (mt 55).1.desc).map (fun d => d.parameters.length) = some 2 := ⟨by decide +kernel, by decide +kernel, by decide +kernel⟩
theorem cl_55 : (mt 55).2.2.1 ≤ 45 := by decide
theorem cz_56 : (mt 56).2.2.2.2 = [] := rfl
theorem cc_56 : Cond.code (mt 56).1 (mt 56).2.1 (mt 56).2.2.1 (mt 56).2.2.2.1 ∈ lw_g := mG 917 (by decide +kernel) rfl
theorem ci_56 : Cond.initialized (mt 56).1.cls ∈ lw_g := w_88
theorem cm_56 : Cond.instanceMethod (mt 56).1 ∈ lw_g := w_915
theorem cs_56 : Cond.selects (mt 56).1.cls (mt 56).1 (mt 56).1 ∈ lw_g := w_916
theorem cd_56 : (mt 56).1.cls ≠ "java/lang/invoke/MethodHandle" ∧ (mt 56).1.cls ≠ "java/lang/invoke/VarHandle" ∧ (parseMethodDescriptor (mt 56).1.desc).map (fun d => d.parameters.length) = some 2 := ⟨by decide +kernel, by decide +kernel, by decide +kernel⟩
theorem cl_56 : (mt 56).2.2.1 ≤ 45 := by decide
theorem cz_57 : (mt 57).2.2.2.2 = [] := rfl
theorem cc_57 : Cond.code (mt 57).1 (mt 57).2.1 (mt 57).2.2.1 (mt 57).2.2.2.1 ∈ lw_g := mG 864 (by decide +kernel) rfl
theorem ci_57 : Cond.initialized (mt 57).1.cls ∈ lw_g := w_88
theorem cm_57 : Cond.instanceMethod (mt 57).1 ∈ lw_g := w_862
theorem cs_57 : Cond.selects (mt 57).1.cls (mt 57).1 (mt 57).1 ∈ lw_g := w_863
theorem cd_57 : (mt 57).1.cls ≠ "java/lang/invoke/MethodHandle" ∧ (mt 57).1.cls ≠ "java/lang/invoke/VarHandle" ∧ (parseMethodDescriptor (mt 57).1.desc).map (fun d => d.parameters.length) = some 1 := ⟨by decide +kernel, by decide +kernel, by decide +kernel⟩
theorem cl_57 : (mt 57).2.2.1 ≤ 45 := by decide
theorem cz_58 : (mt 58).2.2.2.2 = [] := rfl
theorem cc_58 : Cond.code (mt 58).1 (mt 58).2.1 (mt 58).2.2.1 (mt 58).2.2.2.1 ∈ lw_g := mG 871 (by decide +kernel) rfl
theorem ci_58 : Cond.initialized (mt 58).1.cls ∈ lw_g := w_88
theorem cm_58 : Cond.instanceMethod (mt 58).1 ∈ lw_g := w_869
theorem cs_58 : Cond.selects (mt 58).1.cls (mt 58).1 (mt 58).1 ∈ lw_g := w_870
theorem cd_58 : (mt 58).1.cls ≠ "java/lang/invoke/MethodHandle" ∧ (mt 58).1.cls ≠ "java/lang/invoke/VarHandle" ∧ (parseMethodDescriptor (mt 58).1.desc).map (fun d => d.parameters.length) = some 1 := ⟨by decide +kernel, by decide +kernel, by decide +kernel⟩
theorem cl_58 : (mt 58).2.2.1 ≤ 45 := by decide
theorem cz_59 : (mt 59).2.2.2.2 = [] := rfl
theorem cc_59 : Cond.code (mt 59).1 (mt 59).2.1 (mt 59).2.2.1 (mt 59).2.2.2.1 ∈ lw_g := mG 867 (by decide +kernel) rfl
theorem ci_59 : Cond.initialized (mt 59).1.cls ∈ lw_g := w_88
theorem cm_59 : Cond.static (mt 59).1 ∈ lw_g := w_866
theorem cd_59 : (mt 59).1.cls ≠ "java/lang/invoke/MethodHandle" ∧ (mt 59).1.cls ≠ "java/lang/invoke/VarHandle" ∧ (parseMethodDescriptor (mt 59).1.desc).map (fun d => d.parameters.length) = some 3 := ⟨by decide +kernel, by decide +kernel, by decide +kernel⟩
theorem cl_59 : (mt 59).2.2.1 ≤ 45 := by decide
theorem cz_60 : (mt 60).2.2.2.2 = [] := rfl
theorem cc_60 : Cond.code (mt 60).1 (mt 60).2.1 (mt 60).2.2.1 (mt 60).2.2.2.1 ∈ lw_g := mG 549 (by decide +kernel) rfl
theorem ci_60 : Cond.initialized (mt 60).1.cls ∈ lw_g := w_88
theorem cm_60 : Cond.instanceMethod (mt 60).1 ∈ lw_g := w_547
theorem cs_60 : Cond.selects (mt 60).1.cls (mt 60).1 (mt 60).1 ∈ lw_g := w_548
theorem cd_60 : (mt 60).1.cls ≠ "java/lang/invoke/MethodHandle" ∧ (mt 60).1.cls ≠ "java/lang/invoke/VarHandle" ∧ (parseMethodDescriptor (mt 60).1.desc).map (fun d => d.parameters.length) = some 0 := ⟨by decide +kernel, by decide +kernel, by decide +kernel⟩
theorem cl_60 : (mt 60).2.2.1 ≤ 45 := by decide
theorem cz_61 : (mt 61).2.2.2.2 = [] := rfl
theorem cc_61 : Cond.code (mt 61).1 (mt 61).2.1 (mt 61).2.2.1 (mt 61).2.2.2.1 ∈ lw_g := mG 575 (by decide +kernel) rfl
theorem ci_61 : Cond.initialized (mt 61).1.cls ∈ lw_g := w_88
theorem cm_61 : Cond.instanceMethod (mt 61).1 ∈ lw_g := w_573
theorem cs_61 : Cond.selects (mt 61).1.cls (mt 61).1 (mt 61).1 ∈ lw_g := w_574
theorem cd_61 : (mt 61).1.cls ≠ "java/lang/invoke/MethodHandle" ∧ (mt 61).1.cls ≠ "java/lang/invoke/VarHandle" ∧ (parseMethodDescriptor (mt 61).1.desc).map (fun d => d.parameters.length) = some 0 := ⟨by decide +kernel, by decide +kernel, by decide +kernel⟩
theorem cl_61 : (mt 61).2.2.1 ≤ 45 := by decide
theorem cz_62 : (mt 62).2.2.2.2 = [] := rfl
theorem cc_62 : Cond.code (mt 62).1 (mt 62).2.1 (mt 62).2.2.1 (mt 62).2.2.2.1 ∈ lw_g := mG 579 (by decide +kernel) rfl
theorem ci_62 : Cond.initialized (mt 62).1.cls ∈ lw_g := w_88
theorem cm_62 : Cond.instanceMethod (mt 62).1 ∈ lw_g := w_577
theorem cs_62 : Cond.selects (mt 62).1.cls (mt 62).1 (mt 62).1 ∈ lw_g := w_578
theorem cd_62 : (mt 62).1.cls ≠ "java/lang/invoke/MethodHandle" ∧ (mt 62).1.cls ≠ "java/lang/invoke/VarHandle" ∧ (parseMethodDescriptor (mt 62).1.desc).map (fun d => d.parameters.length) = some 0 := ⟨by decide +kernel, by decide +kernel, by decide +kernel⟩
theorem cl_62 : (mt 62).2.2.1 ≤ 45 := by decide
theorem cz_63 : (mt 63).2.2.2.2 = [] := rfl
theorem cc_63 : Cond.code (mt 63).1 (mt 63).2.1 (mt 63).2.2.1 (mt 63).2.2.2.1 ∈ lw_g := mG 1457 (by decide +kernel) rfl
theorem ci_63 : Cond.initialized (mt 63).1.cls ∈ lw_g := w_88
theorem cm_63 : Cond.instanceMethod (mt 63).1 ∈ lw_g := w_1455
theorem cs_63 : Cond.selects (mt 63).1.cls (mt 63).1 (mt 63).1 ∈ lw_g := w_1456
theorem cd_63 : (mt 63).1.cls ≠ "java/lang/invoke/MethodHandle" ∧ (mt 63).1.cls ≠ "java/lang/invoke/VarHandle" ∧ (parseMethodDescriptor (mt 63).1.desc).map (fun d => d.parameters.length) = some 2 := ⟨by decide +kernel, by decide +kernel, by decide +kernel⟩
theorem cl_63 : (mt 63).2.2.1 ≤ 45 := by decide
theorem cz_64 : (mt 64).2.2.2.2 = [] := rfl
theorem cc_64 : Cond.code (mt 64).1 (mt 64).2.1 (mt 64).2.2.1 (mt 64).2.2.2.1 ∈ lw_g := mG 889 (by decide +kernel) rfl
theorem ci_64 : Cond.initialized (mt 64).1.cls ∈ lw_g := w_88
theorem cm_64 : Cond.instanceMethod (mt 64).1 ∈ lw_g := w_888
theorem cs_64 : Cond.selects (mt 64).1.cls (mt 64).1 (mt 64).1 ∈ lw_g := w_9
theorem cd_64 : (mt 64).1.cls ≠ "java/lang/invoke/MethodHandle" ∧ (mt 64).1.cls ≠ "java/lang/invoke/VarHandle" ∧ (parseMethodDescriptor (mt 64).1.desc).map (fun d => d.parameters.length) = some 1 := ⟨by decide +kernel, by decide +kernel, by decide +kernel⟩
theorem cl_64 : (mt 64).2.2.1 ≤ 45 := by decide
theorem cz_65 : (mt 65).2.2.2.2 = [] := rfl
theorem cc_65 : Cond.code (mt 65).1 (mt 65).2.1 (mt 65).2.2.1 (mt 65).2.2.2.1 ∈ lw_g := mG 553 (by decide +kernel) rfl
theorem ci_65 : Cond.initialized (mt 65).1.cls ∈ lw_g := w_88
theorem cm_65 : Cond.instanceMethod (mt 65).1 ∈ lw_g := w_552
theorem cs_65 : Cond.selects (mt 65).1.cls (mt 65).1 (mt 65).1 ∈ lw_g := w_1
theorem cd_65 : (mt 65).1.cls ≠ "java/lang/invoke/MethodHandle" ∧ (mt 65).1.cls ≠ "java/lang/invoke/VarHandle" ∧ (parseMethodDescriptor (mt 65).1.desc).map (fun d => d.parameters.length) = some 0 := ⟨by decide +kernel, by decide +kernel, by decide +kernel⟩
theorem cl_65 : (mt 65).2.2.1 ≤ 45 := by decide
theorem cz_66 : (mt 66).2.2.2.2 = [] := rfl
theorem cc_66 : Cond.code (mt 66).1 (mt 66).2.1 (mt 66).2.2.1 (mt 66).2.2.2.1 ∈ lw_g := mG 885 (by decide +kernel) rfl
theorem ci_66 : Cond.initialized (mt 66).1.cls ∈ lw_g := w_88
theorem cm_66 : Cond.instanceMethod (mt 66).1 ∈ lw_g := w_884
theorem cs_66 : Cond.selects (mt 66).1.cls (mt 66).1 (mt 66).1 ∈ lw_g := w_8
theorem cd_66 : (mt 66).1.cls ≠ "java/lang/invoke/MethodHandle" ∧ (mt 66).1.cls ≠ "java/lang/invoke/VarHandle" ∧ (parseMethodDescriptor (mt 66).1.desc).map (fun d => d.parameters.length) = some 1 := ⟨by decide +kernel, by decide +kernel, by decide +kernel⟩
theorem cl_66 : (mt 66).2.2.1 ≤ 45 := by decide
theorem cz_67 : (mt 67).2.2.2.2 = [] := rfl
theorem cc_67 : Cond.code (mt 67).1 (mt 67).2.1 (mt 67).2.2.1 (mt 67).2.2.2.1 ∈ lw_g := mG 1473 (by decide +kernel) rfl
theorem ci_67 : Cond.initialized (mt 67).1.cls ∈ lw_g := w_88
theorem cm_67 : Cond.instanceMethod (mt 67).1 ∈ lw_g := w_1471
theorem cs_67 : Cond.selects (mt 67).1.cls (mt 67).1 (mt 67).1 ∈ lw_g := w_1472
theorem cd_67 : (mt 67).1.cls ≠ "java/lang/invoke/MethodHandle" ∧ (mt 67).1.cls ≠ "java/lang/invoke/VarHandle" ∧ (parseMethodDescriptor (mt 67).1.desc).map (fun d => d.parameters.length) = some 2 := ⟨by decide +kernel, by decide +kernel, by decide +kernel⟩
theorem cl_67 : (mt 67).2.2.1 ≤ 45 := by decide
theorem cz_68 : (mt 68).2.2.2.2 = [] := rfl
theorem cc_68 : Cond.code (mt 68).1 (mt 68).2.1 (mt 68).2.2.1 (mt 68).2.2.2.1 ∈ lw_g := mG 1477 (by decide +kernel) rfl
theorem ci_68 : Cond.initialized (mt 68).1.cls ∈ lw_g := w_88
theorem cm_68 : Cond.instanceMethod (mt 68).1 ∈ lw_g := w_1476
theorem cs_68 : Cond.selects (mt 68).1.cls (mt 68).1 (mt 68).1 ∈ lw_g := w_33
theorem cd_68 : (mt 68).1.cls ≠ "java/lang/invoke/MethodHandle" ∧ (mt 68).1.cls ≠ "java/lang/invoke/VarHandle" ∧ (parseMethodDescriptor (mt 68).1.desc).map (fun d => d.parameters.length) = some 1 := ⟨by decide +kernel, by decide +kernel, by decide +kernel⟩
theorem cl_68 : (mt 68).2.2.1 ≤ 45 := by decide
theorem cz_69 : (mt 69).2.2.2.2 = [] := rfl
theorem cc_69 : Cond.code (mt 69).1 (mt 69).2.1 (mt 69).2.2.1 (mt 69).2.2.2.1 ∈ lw_g := mG 1483 (by decide +kernel) rfl
theorem ci_69 : Cond.initialized (mt 69).1.cls ∈ lw_g := w_88
theorem cm_69 : Cond.instanceMethod (mt 69).1 ∈ lw_g := w_1482
theorem cs_69 : Cond.selects (mt 69).1.cls (mt 69).1 (mt 69).1 ∈ lw_g := w_34
theorem cd_69 : (mt 69).1.cls ≠ "java/lang/invoke/MethodHandle" ∧ (mt 69).1.cls ≠ "java/lang/invoke/VarHandle" ∧ (parseMethodDescriptor (mt 69).1.desc).map (fun d => d.parameters.length) = some 1 := ⟨by decide +kernel, by decide +kernel, by decide +kernel⟩
theorem cl_69 : (mt 69).2.2.1 ≤ 45 := by decide
theorem cz_70 : (mt 70).2.2.2.2 = [] := rfl
theorem cc_70 : Cond.code (mt 70).1 (mt 70).2.1 (mt 70).2.2.1 (mt 70).2.2.2.1 ∈ lw_g := mG 1488 (by decide +kernel) rfl
theorem ci_70 : Cond.initialized (mt 70).1.cls ∈ lw_g := w_88
theorem cm_70 : Cond.instanceMethod (mt 70).1 ∈ lw_g := w_1487
theorem cs_70 : Cond.selects (mt 70).1.cls (mt 70).1 (mt 70).1 ∈ lw_g := w_35
theorem cd_70 : (mt 70).1.cls ≠ "java/lang/invoke/MethodHandle" ∧ (mt 70).1.cls ≠ "java/lang/invoke/VarHandle" ∧ (parseMethodDescriptor (mt 70).1.desc).map (fun d => d.parameters.length) = some 2 := ⟨by decide +kernel, by decide +kernel, by decide +kernel⟩
theorem cl_70 : (mt 70).2.2.1 ≤ 45 := by decide
theorem cz_71 : (mt 71).2.2.2.2 = [] := rfl
theorem cc_71 : Cond.code (mt 71).1 (mt 71).2.1 (mt 71).2.2.1 (mt 71).2.2.2.1 ∈ lw_g := mG 1491 (by decide +kernel) rfl
theorem ci_71 : Cond.initialized (mt 71).1.cls ∈ lw_g := w_88
theorem cm_71 : Cond.static (mt 71).1 ∈ lw_g := w_1490
theorem cd_71 : (mt 71).1.cls ≠ "java/lang/invoke/MethodHandle" ∧ (mt 71).1.cls ≠ "java/lang/invoke/VarHandle" ∧ (parseMethodDescriptor (mt 71).1.desc).map (fun d => d.parameters.length) = some 1 := ⟨by decide +kernel, by decide +kernel, by decide +kernel⟩
theorem cl_71 : (mt 71).2.2.1 ≤ 45 := by decide
theorem cz_72 : (mt 72).2.2.2.2 = [] := rfl
theorem cc_72 : Cond.code (mt 72).1 (mt 72).2.1 (mt 72).2.2.1 (mt 72).2.2.2.1 ∈ lw_g := mG 1503 (by decide +kernel) rfl
theorem ci_72 : Cond.initialized (mt 72).1.cls ∈ lw_g := w_88
theorem cm_72 : Cond.instanceMethod (mt 72).1 ∈ lw_g := w_1501
theorem cs_72 : Cond.selects (mt 72).1.cls (mt 72).1 (mt 72).1 ∈ lw_g := w_1502
theorem cd_72 : (mt 72).1.cls ≠ "java/lang/invoke/MethodHandle" ∧ (mt 72).1.cls ≠ "java/lang/invoke/VarHandle" ∧ (parseMethodDescriptor (mt 72).1.desc).map (fun d => d.parameters.length) = some 1 := ⟨by decide +kernel, by decide +kernel, by decide +kernel⟩
theorem cl_72 : (mt 72).2.2.1 ≤ 45 := by decide
theorem cz_73 : (mt 73).2.2.2.2 = [] := rfl
theorem cc_73 : Cond.code (mt 73).1 (mt 73).2.1 (mt 73).2.2.1 (mt 73).2.2.2.1 ∈ lw_g := mG 880 (by decide +kernel) rfl
theorem ci_73 : Cond.initialized (mt 73).1.cls ∈ lw_g := w_88
theorem cm_73 : Cond.instanceMethod (mt 73).1 ∈ lw_g := w_878
theorem cs_73 : Cond.selects (mt 73).1.cls (mt 73).1 (mt 73).1 ∈ lw_g := w_879
theorem cd_73 : (mt 73).1.cls ≠ "java/lang/invoke/MethodHandle" ∧ (mt 73).1.cls ≠ "java/lang/invoke/VarHandle" ∧ (parseMethodDescriptor (mt 73).1.desc).map (fun d => d.parameters.length) = some 1 := ⟨by decide +kernel, by decide +kernel, by decide +kernel⟩
theorem cl_73 : (mt 73).2.2.1 ≤ 45 := by decide
theorem cz_74 : (mt 74).2.2.2.2 = [] := rfl
theorem cc_74 : Cond.code (mt 74).1 (mt 74).2.1 (mt 74).2.2.1 (mt 74).2.2.2.1 ∈ lw_g := mG 1508 (by decide +kernel) rfl
theorem ci_74 : Cond.initialized (mt 74).1.cls ∈ lw_g := w_88
theorem cm_74 : Cond.instanceMethod (mt 74).1 ∈ lw_g := w_1507
theorem cs_74 : Cond.selects (mt 74).1.cls (mt 74).1 (mt 74).1 ∈ lw_g := w_36
theorem cd_74 : (mt 74).1.cls ≠ "java/lang/invoke/MethodHandle" ∧ (mt 74).1.cls ≠ "java/lang/invoke/VarHandle" ∧ (parseMethodDescriptor (mt 74).1.desc).map (fun d => d.parameters.length) = some 1 := ⟨by decide +kernel, by decide +kernel, by decide +kernel⟩
theorem cl_74 : (mt 74).2.2.1 ≤ 45 := by decide
theorem cz_75 : (mt 75).2.2.2.2 = [] := rfl
theorem cc_75 : Cond.code (mt 75).1 (mt 75).2.1 (mt 75).2.2.1 (mt 75).2.2.2.1 ∈ lw_g := mG 1511 (by decide +kernel) rfl
theorem ci_75 : Cond.initialized (mt 75).1.cls ∈ lw_g := w_88
theorem cm_75 : Cond.static (mt 75).1 ∈ lw_g := w_1510
theorem cd_75 : (mt 75).1.cls ≠ "java/lang/invoke/MethodHandle" ∧ (mt 75).1.cls ≠ "java/lang/invoke/VarHandle" ∧ (parseMethodDescriptor (mt 75).1.desc).map (fun d => d.parameters.length) = some 3 := ⟨by decide +kernel, by decide +kernel, by decide +kernel⟩
theorem cl_75 : (mt 75).2.2.1 ≤ 45 := by decide
theorem cz_76 : (mt 76).2.2.2.2 = [] := rfl
theorem cc_76 : Cond.code (mt 76).1 (mt 76).2.1 (mt 76).2.2.1 (mt 76).2.2.2.1 ∈ lw_g := mG 1523 (by decide +kernel) rfl
theorem ci_76 : Cond.initialized (mt 76).1.cls ∈ lw_g := w_88
theorem cm_76 : Cond.instanceMethod (mt 76).1 ∈ lw_g := w_1521
theorem cs_76 : Cond.selects (mt 76).1.cls (mt 76).1 (mt 76).1 ∈ lw_g := w_1522
theorem cd_76 : (mt 76).1.cls ≠ "java/lang/invoke/MethodHandle" ∧ (mt 76).1.cls ≠ "java/lang/invoke/VarHandle" ∧ (parseMethodDescriptor (mt 76).1.desc).map (fun d => d.parameters.length) = some 2 := ⟨by decide +kernel, by decide +kernel, by decide +kernel⟩
theorem cl_76 : (mt 76).2.2.1 ≤ 45 := by decide
theorem cz_77 : (mt 77).2.2.2.2 = [] := rfl
theorem cc_77 : Cond.code (mt 77).1 (mt 77).2.1 (mt 77).2.2.1 (mt 77).2.2.2.1 ∈ lw_g := mG 928 (by decide +kernel) rfl
theorem ci_77 : Cond.initialized (mt 77).1.cls ∈ lw_g := w_88
theorem cm_77 : Cond.instanceMethod (mt 77).1 ∈ lw_g := w_926
theorem cs_77 : Cond.selects (mt 77).1.cls (mt 77).1 (mt 77).1 ∈ lw_g := w_927
theorem cd_77 : (mt 77).1.cls ≠ "java/lang/invoke/MethodHandle" ∧ (mt 77).1.cls ≠ "java/lang/invoke/VarHandle" ∧ (parseMethodDescriptor (mt 77).1.desc).map (fun d => d.parameters.length) = some 2 := ⟨by decide +kernel, by decide +kernel, by decide +kernel⟩
theorem cl_77 : (mt 77).2.2.1 ≤ 45 := by decide
theorem cz_78 : (mt 78).2.2.2.2 = [] := rfl
theorem cc_78 : Cond.code (mt 78).1 (mt 78).2.1 (mt 78).2.2.1 (mt 78).2.2.2.1 ∈ lw_g := mG 273 (by decide +kernel) rfl
theorem ci_78 : Cond.initialized (mt 78).1.cls ∈ lw_g := w_90
theorem cm_78 : Cond.instanceMethod (mt 78).1 ∈ lw_g := w_272
theorem cd_78 : (mt 78).1.cls ≠ "java/lang/invoke/MethodHandle" ∧ (mt 78).1.cls ≠ "java/lang/invoke/VarHandle" ∧ (parseMethodDescriptor (mt 78).1.desc).map (fun d => d.parameters.length) = some 3 := ⟨by decide +kernel, by decide +kernel, by decide +kernel⟩
theorem cl_78 : (mt 78).2.2.1 ≤ 45 := by decide
theorem cz_79 : (mt 79).2.2.2.2 = [] := rfl
theorem cc_79 : Cond.code (mt 79).1 (mt 79).2.1 (mt 79).2.2.1 (mt 79).2.2.2.1 ∈ lw_g := mG 932 (by decide +kernel) rfl
theorem ci_79 : Cond.initialized (mt 79).1.cls ∈ lw_g := w_90
theorem cm_79 : Cond.instanceMethod (mt 79).1 ∈ lw_g := w_930
theorem cs_79 : Cond.selects (mt 79).1.cls (mt 79).1 (mt 79).1 ∈ lw_g := w_931
theorem cd_79 : (mt 79).1.cls ≠ "java/lang/invoke/MethodHandle" ∧ (mt 79).1.cls ≠ "java/lang/invoke/VarHandle" ∧ (parseMethodDescriptor (mt 79).1.desc).map (fun d => d.parameters.length) = some 0 := ⟨by decide +kernel, by decide +kernel, by decide +kernel⟩
theorem cl_79 : (mt 79).2.2.1 ≤ 45 := by decide
theorem cz_80 : (mt 80).2.2.2.2 = [] := rfl
theorem cc_80 : Cond.code (mt 80).1 (mt 80).2.1 (mt 80).2.2.1 (mt 80).2.2.2.1 ∈ lw_g := mG 964 (by decide +kernel) rfl
theorem ci_80 : Cond.initialized (mt 80).1.cls ∈ lw_g := w_90
theorem cm_80 : Cond.instanceMethod (mt 80).1 ∈ lw_g := w_962
theorem cs_80 : Cond.selects (mt 80).1.cls (mt 80).1 (mt 80).1 ∈ lw_g := w_963
theorem cd_80 : (mt 80).1.cls ≠ "java/lang/invoke/MethodHandle" ∧ (mt 80).1.cls ≠ "java/lang/invoke/VarHandle" ∧ (parseMethodDescriptor (mt 80).1.desc).map (fun d => d.parameters.length) = some 0 := ⟨by decide +kernel, by decide +kernel, by decide +kernel⟩
theorem cl_80 : (mt 80).2.2.1 ≤ 45 := by decide
theorem cz_81 : (mt 81).2.2.2.2 = [] := rfl
theorem cc_81 : Cond.code (mt 81).1 (mt 81).2.1 (mt 81).2.2.1 (mt 81).2.2.2.1 ∈ lw_g := mG 960 (by decide +kernel) rfl
theorem ci_81 : Cond.initialized (mt 81).1.cls ∈ lw_g := w_90
theorem cm_81 : Cond.instanceMethod (mt 81).1 ∈ lw_g := w_958
theorem cs_81 : Cond.selects (mt 81).1.cls (mt 81).1 (mt 81).1 ∈ lw_g := w_959
theorem cd_81 : (mt 81).1.cls ≠ "java/lang/invoke/MethodHandle" ∧ (mt 81).1.cls ≠ "java/lang/invoke/VarHandle" ∧ (parseMethodDescriptor (mt 81).1.desc).map (fun d => d.parameters.length) = some 0 := ⟨by decide +kernel, by decide +kernel, by decide +kernel⟩
theorem cl_81 : (mt 81).2.2.1 ≤ 45 := by decide
theorem cz_82 : (mt 82).2.2.2.2 = [] := rfl
theorem cc_82 : Cond.code (mt 82).1 (mt 82).2.1 (mt 82).2.2.1 (mt 82).2.2.2.1 ∈ lw_g := mG 968 (by decide +kernel) rfl
theorem ci_82 : Cond.initialized (mt 82).1.cls ∈ lw_g := w_90
theorem cm_82 : Cond.instanceMethod (mt 82).1 ∈ lw_g := w_966
theorem cs_82 : Cond.selects (mt 82).1.cls (mt 82).1 (mt 82).1 ∈ lw_g := w_967
theorem cd_82 : (mt 82).1.cls ≠ "java/lang/invoke/MethodHandle" ∧ (mt 82).1.cls ≠ "java/lang/invoke/VarHandle" ∧ (parseMethodDescriptor (mt 82).1.desc).map (fun d => d.parameters.length) = some 5 := ⟨by decide +kernel, by decide +kernel, by decide +kernel⟩
theorem cl_82 : (mt 82).2.2.1 ≤ 45 := by decide
theorem cz_83 : (mt 83).2.2.2.2 = [] := rfl
theorem cc_83 : Cond.code (mt 83).1 (mt 83).2.1 (mt 83).2.2.1 (mt 83).2.2.2.1 ∈ lw_g := mG 1203 (by decide +kernel) rfl
theorem ci_83 : Cond.initialized (mt 83).1.cls ∈ lw_g := w_90
theorem cm_83 : Cond.instanceMethod (mt 83).1 ∈ lw_g := w_1202
theorem cs_83 : Cond.selects (mt 83).1.cls (mt 83).1 (mt 83).1 ∈ lw_g := w_29
theorem cd_83 : (mt 83).1.cls ≠ "java/lang/invoke/MethodHandle" ∧ (mt 83).1.cls ≠ "java/lang/invoke/VarHandle" ∧ (parseMethodDescriptor (mt 83).1.desc).map (fun d => d.parameters.length) = some 1 := ⟨by decide +kernel, by decide +kernel, by decide +kernel⟩
theorem cl_83 : (mt 83).2.2.1 ≤ 45 := by decide
theorem cz_84 : (mt 84).2.2.2.2 = [] := rfl
theorem cc_84 : Cond.code (mt 84).1 (mt 84).2.1 (mt 84).2.2.1 (mt 84).2.2.2.1 ∈ lw_g := mG 1230 (by decide +kernel) rfl
theorem ci_84 : Cond.initialized (mt 84).1.cls ∈ lw_g := w_90
theorem cm_84 : Cond.instanceMethod (mt 84).1 ∈ lw_g := w_1229
theorem cs_84 : Cond.selects (mt 84).1.cls (mt 84).1 (mt 84).1 ∈ lw_g := w_30
theorem cd_84 : (mt 84).1.cls ≠ "java/lang/invoke/MethodHandle" ∧ (mt 84).1.cls ≠ "java/lang/invoke/VarHandle" ∧ (parseMethodDescriptor (mt 84).1.desc).map (fun d => d.parameters.length) = some 3 := ⟨by decide +kernel, by decide +kernel, by decide +kernel⟩
theorem cl_84 : (mt 84).2.2.1 ≤ 45 := by decide
theorem cz_85 : (mt 85).2.2.2.2 = [] := rfl
theorem cc_85 : Cond.code (mt 85).1 (mt 85).2.1 (mt 85).2.2.1 (mt 85).2.2.2.1 ∈ lw_g := mG 1407 (by decide +kernel) rfl
theorem ci_85 : Cond.initialized (mt 85).1.cls ∈ lw_g := w_90
theorem cm_85 : Cond.instanceMethod (mt 85).1 ∈ lw_g := w_1405
theorem cs_85 : Cond.selects (mt 85).1.cls (mt 85).1 (mt 85).1 ∈ lw_g := w_1406
theorem cd_85 : (mt 85).1.cls ≠ "java/lang/invoke/MethodHandle" ∧ (mt 85).1.cls ≠ "java/lang/invoke/VarHandle" ∧ (parseMethodDescriptor (mt 85).1.desc).map (fun d => d.parameters.length) = some 1 := ⟨by decide +kernel, by decide +kernel, by decide +kernel⟩
theorem cl_85 : (mt 85).2.2.1 ≤ 45 := by decide
theorem cz_86 : (mt 86).2.2.2.2 = [] := rfl
theorem cc_86 : Cond.code (mt 86).1 (mt 86).2.1 (mt 86).2.2.1 (mt 86).2.2.2.1 ∈ lw_g := mG 1418 (by decide +kernel) rfl
theorem ci_86 : Cond.initialized (mt 86).1.cls ∈ lw_g := w_90
theorem cm_86 : Cond.instanceMethod (mt 86).1 ∈ lw_g := w_1417
theorem cs_86 : Cond.selects (mt 86).1.cls (mt 86).1 (mt 86).1 ∈ lw_g := w_32
theorem cd_86 : (mt 86).1.cls ≠ "java/lang/invoke/MethodHandle" ∧ (mt 86).1.cls ≠ "java/lang/invoke/VarHandle" ∧ (parseMethodDescriptor (mt 86).1.desc).map (fun d => d.parameters.length) = some 4 := ⟨by decide +kernel, by decide +kernel, by decide +kernel⟩
theorem cl_86 : (mt 86).2.2.1 ≤ 45 := by decide
theorem cz_87 : (mt 87).2.2.2.2 = [] := rfl
theorem cc_87 : Cond.code (mt 87).1 (mt 87).2.1 (mt 87).2.2.1 (mt 87).2.2.2.1 ∈ lw_g := mG 119 (by decide +kernel) rfl
theorem ci_87 : Cond.initialized (mt 87).1.cls ∈ lw_g := w_85
theorem cm_87 : Cond.instanceMethod (mt 87).1 ∈ lw_g := w_118
theorem cd_87 : (mt 87).1.cls ≠ "java/lang/invoke/MethodHandle" ∧ (mt 87).1.cls ≠ "java/lang/invoke/VarHandle" ∧ (parseMethodDescriptor (mt 87).1.desc).map (fun d => d.parameters.length) = some 0 := ⟨by decide +kernel, by decide +kernel, by decide +kernel⟩
theorem cl_87 : (mt 87).2.2.1 ≤ 45 := by decide
theorem cz_88 : (mt 88).2.2.2.2 = [] := rfl
theorem cc_88 : Cond.code (mt 88).1 (mt 88).2.1 (mt 88).2.2.1 (mt 88).2.2.2.1 ∈ lw_g := mG 533 (by decide +kernel) rfl
theorem ci_88 : Cond.initialized (mt 88).1.cls ∈ lw_g := w_85
theorem cm_88 : Cond.instanceMethod (mt 88).1 ∈ lw_g := w_531
theorem cs_88 : Cond.selects (mt 88).1.cls (mt 88).1 (mt 88).1 ∈ lw_g := w_532
theorem cd_88 : (mt 88).1.cls ≠ "java/lang/invoke/MethodHandle" ∧ (mt 88).1.cls ≠ "java/lang/invoke/VarHandle" ∧ (parseMethodDescriptor (mt 88).1.desc).map (fun d => d.parameters.length) = some 0 := ⟨by decide +kernel, by decide +kernel, by decide +kernel⟩
theorem cl_88 : (mt 88).2.2.1 ≤ 45 := by decide
theorem cz_89 : (mt 89).2.2.2.2 = [] := rfl
theorem cc_89 : Cond.code (mt 89).1 (mt 89).2.1 (mt 89).2.2.1 (mt 89).2.2.2.1 ∈ lw_g := mG 1258 (by decide +kernel) rfl
theorem ci_89 : Cond.initialized (mt 89).1.cls ∈ lw_g := w_85
theorem cm_89 : Cond.instanceMethod (mt 89).1 ∈ lw_g := w_1256
theorem cs_89 : Cond.selects (mt 89).1.cls (mt 89).1 (mt 89).1 ∈ lw_g := w_1257
theorem cd_89 : (mt 89).1.cls ≠ "java/lang/invoke/MethodHandle" ∧ (mt 89).1.cls ≠ "java/lang/invoke/VarHandle" ∧ (parseMethodDescriptor (mt 89).1.desc).map (fun d => d.parameters.length) = some 0 := ⟨by decide +kernel, by decide +kernel, by decide +kernel⟩
theorem cl_89 : (mt 89).2.2.1 ≤ 45 := by decide
theorem cz_90 : (mt 90).2.2.2.2 = [] := rfl
theorem cc_90 : Cond.code (mt 90).1 (mt 90).2.1 (mt 90).2.2.1 (mt 90).2.2.2.1 ∈ lw_g := mG 699 (by decide +kernel) rfl
theorem ci_90 : Cond.initialized (mt 90).1.cls ∈ lw_g := w_85
theorem cm_90 : Cond.instanceMethod (mt 90).1 ∈ lw_g := w_697
theorem cs_90 : Cond.selects (mt 90).1.cls (mt 90).1 (mt 90).1 ∈ lw_g := w_698
theorem cd_90 : (mt 90).1.cls ≠ "java/lang/invoke/MethodHandle" ∧ (mt 90).1.cls ≠ "java/lang/invoke/VarHandle" ∧ (parseMethodDescriptor (mt 90).1.desc).map (fun d => d.parameters.length) = some 1 := ⟨by decide +kernel, by decide +kernel, by decide +kernel⟩
theorem cl_90 : (mt 90).2.2.1 ≤ 45 := by decide
theorem cz_91 : (mt 91).2.2.2.2 = [] := rfl
theorem cc_91 : Cond.code (mt 91).1 (mt 91).2.1 (mt 91).2.2.1 (mt 91).2.2.2.1 ∈ lw_g := mG 1369 (by decide +kernel) rfl
theorem ci_91 : Cond.initialized (mt 91).1.cls ∈ lw_g := w_85
theorem cm_91 : Cond.instanceMethod (mt 91).1 ∈ lw_g := w_1367
theorem cs_91 : Cond.selects (mt 91).1.cls (mt 91).1 (mt 91).1 ∈ lw_g := w_1368
theorem cd_91 : (mt 91).1.cls ≠ "java/lang/invoke/MethodHandle" ∧ (mt 91).1.cls ≠ "java/lang/invoke/VarHandle" ∧ (parseMethodDescriptor (mt 91).1.desc).map (fun d => d.parameters.length) = some 1 := ⟨by decide +kernel, by decide +kernel, by decide +kernel⟩
theorem cl_91 : (mt 91).2.2.1 ≤ 45 := by decide
theorem cz_92 : (mt 92).2.2.2.2 = [] := rfl
theorem cc_92 : Cond.code (mt 92).1 (mt 92).2.1 (mt 92).2.2.1 (mt 92).2.2.2.1 ∈ lw_g := mG 1263 (by decide +kernel) rfl
theorem ci_92 : Cond.initialized (mt 92).1.cls ∈ lw_g := w_85
theorem cm_92 : Cond.instanceMethod (mt 92).1 ∈ lw_g := w_1261
theorem cs_92 : Cond.selects (mt 92).1.cls (mt 92).1 (mt 92).1 ∈ lw_g := w_1262
theorem cd_92 : (mt 92).1.cls ≠ "java/lang/invoke/MethodHandle" ∧ (mt 92).1.cls ≠ "java/lang/invoke/VarHandle" ∧ (parseMethodDescriptor (mt 92).1.desc).map (fun d => d.parameters.length) = some 0 := ⟨by decide +kernel, by decide +kernel, by decide +kernel⟩
theorem cl_92 : (mt 92).2.2.1 ≤ 45 := by decide
theorem cz_93 : (mt 93).2.2.2.2 = [] := rfl
theorem cc_93 : Cond.code (mt 93).1 (mt 93).2.1 (mt 93).2.2.1 (mt 93).2.2.2.1 ∈ lw_g := mG 723 (by decide +kernel) rfl
theorem ci_93 : Cond.initialized (mt 93).1.cls ∈ lw_g := w_85
theorem cm_93 : Cond.instanceMethod (mt 93).1 ∈ lw_g := w_721
theorem cs_93 : Cond.selects (mt 93).1.cls (mt 93).1 (mt 93).1 ∈ lw_g := w_722
theorem cd_93 : (mt 93).1.cls ≠ "java/lang/invoke/MethodHandle" ∧ (mt 93).1.cls ≠ "java/lang/invoke/VarHandle" ∧ (parseMethodDescriptor (mt 93).1.desc).map (fun d => d.parameters.length) = some 1 := ⟨by decide +kernel, by decide +kernel, by decide +kernel⟩
theorem cl_93 : (mt 93).2.2.1 ≤ 45 := by decide
theorem cz_94 : (mt 94).2.2.2.2 = [] := rfl
theorem cc_94 : Cond.code (mt 94).1 (mt 94).2.1 (mt 94).2.2.1 (mt 94).2.2.2.1 ∈ lw_g := mG 1016 (by decide +kernel) rfl
theorem ci_94 : Cond.initialized (mt 94).1.cls ∈ lw_g := w_85
theorem cm_94 : Cond.instanceMethod (mt 94).1 ∈ lw_g := w_1014
theorem cs_94 : Cond.selects (mt 94).1.cls (mt 94).1 (mt 94).1 ∈ lw_g := w_1015
theorem cd_94 : (mt 94).1.cls ≠ "java/lang/invoke/MethodHandle" ∧ (mt 94).1.cls ≠ "java/lang/invoke/VarHandle" ∧ (parseMethodDescriptor (mt 94).1.desc).map (fun d => d.parameters.length) = some 1 := ⟨by decide +kernel, by decide +kernel, by decide +kernel⟩
theorem cl_94 : (mt 94).2.2.1 ≤ 45 := by decide
theorem cz_95 : (mt 95).2.2.2.2 = [] := rfl
theorem cc_95 : Cond.code (mt 95).1 (mt 95).2.1 (mt 95).2.2.1 (mt 95).2.2.2.1 ∈ lw_g := mG 994 (by decide +kernel) rfl
theorem ci_95 : Cond.initialized (mt 95).1.cls ∈ lw_g := w_85
theorem cm_95 : Cond.instanceMethod (mt 95).1 ∈ lw_g := w_992
theorem cs_95 : Cond.selects (mt 95).1.cls (mt 95).1 (mt 95).1 ∈ lw_g := w_993
theorem cd_95 : (mt 95).1.cls ≠ "java/lang/invoke/MethodHandle" ∧ (mt 95).1.cls ≠ "java/lang/invoke/VarHandle" ∧ (parseMethodDescriptor (mt 95).1.desc).map (fun d => d.parameters.length) = some 1 := ⟨by decide +kernel, by decide +kernel, by decide +kernel⟩
theorem cl_95 : (mt 95).2.2.1 ≤ 45 := by decide
theorem cz_96 : (mt 96).2.2.2.2 = [] := rfl
theorem cc_96 : Cond.code (mt 96).1 (mt 96).2.1 (mt 96).2.2.1 (mt 96).2.2.2.1 ∈ lw_g := mG 1321 (by decide +kernel) rfl
theorem ci_96 : Cond.initialized (mt 96).1.cls ∈ lw_g := w_85
theorem cm_96 : Cond.instanceMethod (mt 96).1 ∈ lw_g := w_1319
theorem cs_96 : Cond.selects (mt 96).1.cls (mt 96).1 (mt 96).1 ∈ lw_g := w_1320
theorem cd_96 : (mt 96).1.cls ≠ "java/lang/invoke/MethodHandle" ∧ (mt 96).1.cls ≠ "java/lang/invoke/VarHandle" ∧ (parseMethodDescriptor (mt 96).1.desc).map (fun d => d.parameters.length) = some 2 := ⟨by decide +kernel, by decide +kernel, by decide +kernel⟩
theorem cl_96 : (mt 96).2.2.1 ≤ 45 := by decide
theorem cz_97 : (mt 97).2.2.2.2 = [] := rfl
theorem cc_97 : Cond.code (mt 97).1 (mt 97).2.1 (mt 97).2.2.1 (mt 97).2.2.2.1 ∈ lw_g := mG 1341 (by decide +kernel) rfl
theorem ci_97 : Cond.initialized (mt 97).1.cls ∈ lw_g := w_85
theorem cm_97 : Cond.instanceMethod (mt 97).1 ∈ lw_g := w_1339
theorem cs_97 : Cond.selects (mt 97).1.cls (mt 97).1 (mt 97).1 ∈ lw_g := w_1340
theorem cd_97 : (mt 97).1.cls ≠ "java/lang/invoke/MethodHandle" ∧ (mt 97).1.cls ≠ "java/lang/invoke/VarHandle" ∧ (parseMethodDescriptor (mt 97).1.desc).map (fun d => d.parameters.length) = some 5 := ⟨by decide +kernel, by decide +kernel, by decide +kernel⟩
theorem cl_97 : (mt 97).2.2.1 ≤ 45 := by decide
theorem cz_98 : (mt 98).2.2.2.2 = [] := rfl
theorem cc_98 : Cond.code (mt 98).1 (mt 98).2.1 (mt 98).2.2.1 (mt 98).2.2.2.1 ∈ lw_g := mG 1345 (by decide +kernel) rfl
theorem ci_98 : Cond.initialized (mt 98).1.cls ∈ lw_g := w_85
theorem cm_98 : Cond.instanceMethod (mt 98).1 ∈ lw_g := w_1343
theorem cs_98 : Cond.selects (mt 98).1.cls (mt 98).1 (mt 98).1 ∈ lw_g := w_1344
theorem cd_98 : (mt 98).1.cls ≠ "java/lang/invoke/MethodHandle" ∧ (mt 98).1.cls ≠ "java/lang/invoke/VarHandle" ∧ (parseMethodDescriptor (mt 98).1.desc).map (fun d => d.parameters.length) = some 2 := ⟨by decide +kernel, by decide +kernel, by decide +kernel⟩
theorem cl_98 : (mt 98).2.2.1 ≤ 45 := by decide
theorem cz_99 : (mt 99).2.2.2.2 = [] := rfl
theorem cc_99 : Cond.code (mt 99).1 (mt 99).2.1 (mt 99).2.2.1 (mt 99).2.2.2.1 ∈ lw_g := mG 1357 (by decide +kernel) rfl
theorem ci_99 : Cond.initialized (mt 99).1.cls ∈ lw_g := w_85
theorem cm_99 : Cond.instanceMethod (mt 99).1 ∈ lw_g := w_1355
theorem cs_99 : Cond.selects (mt 99).1.cls (mt 99).1 (mt 99).1 ∈ lw_g := w_1356
theorem cd_99 : (mt 99).1.cls ≠ "java/lang/invoke/MethodHandle" ∧ (mt 99).1.cls ≠ "java/lang/invoke/VarHandle" ∧ (parseMethodDescriptor (mt 99).1.desc).map (fun d => d.parameters.length) = some 4 := ⟨by decide +kernel, by decide +kernel, by decide +kernel⟩
theorem cl_99 : (mt 99).2.2.1 ≤ 45 := by decide
theorem cz_100 : (mt 100).2.2.2.2 = [] := rfl
theorem cc_100 : Cond.code (mt 100).1 (mt 100).2.1 (mt 100).2.2.1 (mt 100).2.2.2.1 ∈ lw_g := mG 1033 (by decide +kernel) rfl
theorem ci_100 : Cond.initialized (mt 100).1.cls ∈ lw_g := w_85
theorem cm_100 : Cond.instanceMethod (mt 100).1 ∈ lw_g := w_1031
theorem cs_100 : Cond.selects (mt 100).1.cls (mt 100).1 (mt 100).1 ∈ lw_g := w_1032
theorem cd_100 : (mt 100).1.cls ≠ "java/lang/invoke/MethodHandle" ∧ (mt 100).1.cls ≠ "java/lang/invoke/VarHandle" ∧ (parseMethodDescriptor (mt 100).1.desc).map (fun d => d.parameters.length) = some 2 := ⟨by decide +kernel, by decide +kernel, by decide +kernel⟩
theorem cl_100 : (mt 100).2.2.1 ≤ 45 := by decide
theorem cz_101 : (mt 101).2.2.2.2 = [] := rfl
theorem cc_101 : Cond.code (mt 101).1 (mt 101).2.1 (mt 101).2.2.1 (mt 101).2.2.2.1 ∈ lw_g := mG 1055 (by decide +kernel) rfl
theorem ci_101 : Cond.initialized (mt 101).1.cls ∈ lw_g := w_85
theorem cm_101 : Cond.instanceMethod (mt 101).1 ∈ lw_g := w_1053
theorem cs_101 : Cond.selects (mt 101).1.cls (mt 101).1 (mt 101).1 ∈ lw_g := w_1054
theorem cd_101 : (mt 101).1.cls ≠ "java/lang/invoke/MethodHandle" ∧ (mt 101).1.cls ≠ "java/lang/invoke/VarHandle" ∧ (parseMethodDescriptor (mt 101).1.desc).map (fun d => d.parameters.length) = some 2 := ⟨by decide +kernel, by decide +kernel, by decide +kernel⟩
theorem cl_101 : (mt 101).2.2.1 ≤ 45 := by decide
theorem cz_102 : (mt 102).2.2.2.2 = [] := rfl
theorem cc_102 : Cond.code (mt 102).1 (mt 102).2.1 (mt 102).2.2.1 (mt 102).2.2.2.1 ∈ lw_g := mG 1059 (by decide +kernel) rfl
theorem ci_102 : Cond.initialized (mt 102).1.cls ∈ lw_g := w_85
theorem cm_102 : Cond.instanceMethod (mt 102).1 ∈ lw_g := w_1057
theorem cs_102 : Cond.selects (mt 102).1.cls (mt 102).1 (mt 102).1 ∈ lw_g := w_1058
theorem cd_102 : (mt 102).1.cls ≠ "java/lang/invoke/MethodHandle" ∧ (mt 102).1.cls ≠ "java/lang/invoke/VarHandle" ∧ (parseMethodDescriptor (mt 102).1.desc).map (fun d => d.parameters.length) = some 2 := ⟨by decide +kernel, by decide +kernel, by decide +kernel⟩
theorem cl_102 : (mt 102).2.2.1 ≤ 45 := by decide
theorem cz_103 : (mt 103).2.2.2.2 = [] := rfl
theorem cc_103 : Cond.code (mt 103).1 (mt 103).2.1 (mt 103).2.2.1 (mt 103).2.2.2.1 ∈ lw_g := mG 1040 (by decide +kernel) rfl
theorem ci_103 : Cond.initialized (mt 103).1.cls ∈ lw_g := w_85
theorem cm_103 : Cond.instanceMethod (mt 103).1 ∈ lw_g := w_1038
theorem cs_103 : Cond.selects (mt 103).1.cls (mt 103).1 (mt 103).1 ∈ lw_g := w_1039
theorem cd_103 : (mt 103).1.cls ≠ "java/lang/invoke/MethodHandle" ∧ (mt 103).1.cls ≠ "java/lang/invoke/VarHandle" ∧ (parseMethodDescriptor (mt 103).1.desc).map (fun d => d.parameters.length) = some 2 := ⟨by decide +kernel, by decide +kernel, by decide +kernel⟩
theorem cl_103 : (mt 103).2.2.1 ≤ 45 := by decide
theorem cz_104 : (mt 104).2.2.2.2 = [] := rfl
theorem cc_104 : Cond.code (mt 104).1 (mt 104).2.1 (mt 104).2.2.1 (mt 104).2.2.2.1 ∈ lw_g := mG 1047 (by decide +kernel) rfl
theorem ci_104 : Cond.initialized (mt 104).1.cls ∈ lw_g := w_85
theorem cm_104 : Cond.instanceMethod (mt 104).1 ∈ lw_g := w_1045
theorem cs_104 : Cond.selects (mt 104).1.cls (mt 104).1 (mt 104).1 ∈ lw_g := w_1046
theorem cd_104 : (mt 104).1.cls ≠ "java/lang/invoke/MethodHandle" ∧ (mt 104).1.cls ≠ "java/lang/invoke/VarHandle" ∧ (parseMethodDescriptor (mt 104).1.desc).map (fun d => d.parameters.length) = some 2 := ⟨by decide +kernel, by decide +kernel, by decide +kernel⟩
theorem cl_104 : (mt 104).2.2.1 ≤ 45 := by decide
theorem cz_105 : (mt 105).2.2.2.2 = [] := rfl
theorem cc_105 : Cond.code (mt 105).1 (mt 105).2.1 (mt 105).2.2.1 (mt 105).2.2.2.1 ∈ lw_g := mG 1063 (by decide +kernel) rfl
theorem ci_105 : Cond.initialized (mt 105).1.cls ∈ lw_g := w_85
theorem cm_105 : Cond.instanceMethod (mt 105).1 ∈ lw_g := w_1061
theorem cs_105 : Cond.selects (mt 105).1.cls (mt 105).1 (mt 105).1 ∈ lw_g := w_1062
theorem cd_105 : (mt 105).1.cls ≠ "java/lang/invoke/MethodHandle" ∧ (mt 105).1.cls ≠ "java/lang/invoke/VarHandle" ∧ (parseMethodDescriptor (mt 105).1.desc).map (fun d => d.parameters.length) = some 2 := ⟨by decide +kernel, by decide +kernel, by decide +kernel⟩
theorem cl_105 : (mt 105).2.2.1 ≤ 45 := by decide
theorem cz_106 : (mt 106).2.2.2.2 = [] := rfl
theorem cc_106 : Cond.code (mt 106).1 (mt 106).2.1 (mt 106).2.2.1 (mt 106).2.2.2.1 ∈ lw_g := mG 361 (by decide +kernel) rfl
theorem ci_106 : Cond.initialized (mt 106).1.cls ∈ lw_g := w_94
theorem cm_106 : Cond.instanceMethod (mt 106).1 ∈ lw_g := w_360
theorem cd_106 : (mt 106).1.cls ≠ "java/lang/invoke/MethodHandle" ∧ (mt 106).1.cls ≠ "java/lang/invoke/VarHandle" ∧ (parseMethodDescriptor (mt 106).1.desc).map (fun d => d.parameters.length) = some 3 := ⟨by decide +kernel, by decide +kernel, by decide +kernel⟩
theorem cl_106 : (mt 106).2.2.1 ≤ 45 := by decide
theorem cz_107 : (mt 107).2.2.2.2 = [] := rfl
theorem cc_107 : Cond.code (mt 107).1 (mt 107).2.1 (mt 107).2.2.1 (mt 107).2.2.2.1 ∈ lw_g := mG 603 (by decide +kernel) rfl
theorem ci_107 : Cond.initialized (mt 107).1.cls ∈ lw_g := w_94
theorem cm_107 : Cond.instanceMethod (mt 107).1 ∈ lw_g := w_601
theorem cs_107 : Cond.selects (mt 107).1.cls (mt 107).1 (mt 107).1 ∈ lw_g := w_602
theorem cd_107 : (mt 107).1.cls ≠ "java/lang/invoke/MethodHandle" ∧ (mt 107).1.cls ≠ "java/lang/invoke/VarHandle" ∧ (parseMethodDescriptor (mt 107).1.desc).map (fun d => d.parameters.length) = some 1 := ⟨by decide +kernel, by decide +kernel, by decide +kernel⟩
theorem cl_107 : (mt 107).2.2.1 ≤ 45 := by decide
theorem cz_108 : (mt 108).2.2.2.2 = [] := rfl
theorem cc_108 : Cond.code (mt 108).1 (mt 108).2.1 (mt 108).2.2.1 (mt 108).2.2.2.1 ∈ lw_g := mG 1165 (by decide +kernel) rfl
theorem ci_108 : Cond.initialized (mt 108).1.cls ∈ lw_g := w_94
theorem cm_108 : Cond.instanceMethod (mt 108).1 ∈ lw_g := w_1163
theorem cs_108 : Cond.selects (mt 108).1.cls (mt 108).1 (mt 108).1 ∈ lw_g := w_1164
theorem cd_108 : (mt 108).1.cls ≠ "java/lang/invoke/MethodHandle" ∧ (mt 108).1.cls ≠ "java/lang/invoke/VarHandle" ∧ (parseMethodDescriptor (mt 108).1.desc).map (fun d => d.parameters.length) = some 1 := ⟨by decide +kernel, by decide +kernel, by decide +kernel⟩
theorem cl_108 : (mt 108).2.2.1 ≤ 45 := by decide
theorem cz_109 : (mt 109).2.2.2.2 = [] := rfl
theorem cc_109 : Cond.code (mt 109).1 (mt 109).2.1 (mt 109).2.2.1 (mt 109).2.2.2.1 ∈ lw_g := mG 587 (by decide +kernel) rfl
theorem ci_109 : Cond.initialized (mt 109).1.cls ∈ lw_g := w_94
theorem cm_109 : Cond.instanceMethod (mt 109).1 ∈ lw_g := w_585
theorem cs_109 : Cond.selects (mt 109).1.cls (mt 109).1 (mt 109).1 ∈ lw_g := w_586
theorem cd_109 : (mt 109).1.cls ≠ "java/lang/invoke/MethodHandle" ∧ (mt 109).1.cls ≠ "java/lang/invoke/VarHandle" ∧ (parseMethodDescriptor (mt 109).1.desc).map (fun d => d.parameters.length) = some 0 := ⟨by decide +kernel, by decide +kernel, by decide +kernel⟩
theorem cl_109 : (mt 109).2.2.1 ≤ 45 := by decide
theorem cz_110 : (mt 110).2.2.2.2 = [] := rfl
theorem cc_110 : Cond.code (mt 110).1 (mt 110).2.1 (mt 110).2.2.1 (mt 110).2.2.2.1 ∈ lw_g := mG 614 (by decide +kernel) rfl
theorem ci_110 : Cond.initialized (mt 110).1.cls ∈ lw_g := w_94
theorem cm_110 : Cond.instanceMethod (mt 110).1 ∈ lw_g := w_612
theorem cs_110 : Cond.selects (mt 110).1.cls (mt 110).1 (mt 110).1 ∈ lw_g := w_613
theorem cd_110 : (mt 110).1.cls ≠ "java/lang/invoke/MethodHandle" ∧ (mt 110).1.cls ≠ "java/lang/invoke/VarHandle" ∧ (parseMethodDescriptor (mt 110).1.desc).map (fun d => d.parameters.length) = some 0 := ⟨by decide +kernel, by decide +kernel, by decide +kernel⟩
theorem cl_110 : (mt 110).2.2.1 ≤ 45 := by decide
theorem cz_111 : (mt 111).2.2.2.2 = [] := rfl
theorem cc_111 : Cond.code (mt 111).1 (mt 111).2.1 (mt 111).2.2.1 (mt 111).2.2.2.1 ∈ lw_g := mG 800 (by decide +kernel) rfl
theorem ci_111 : Cond.initialized (mt 111).1.cls ∈ lw_g := w_94
theorem cm_111 : Cond.instanceMethod (mt 111).1 ∈ lw_g := w_798
theorem cs_111 : Cond.selects (mt 111).1.cls (mt 111).1 (mt 111).1 ∈ lw_g := w_799
theorem cd_111 : (mt 111).1.cls ≠ "java/lang/invoke/MethodHandle" ∧ (mt 111).1.cls ≠ "java/lang/invoke/VarHandle" ∧ (parseMethodDescriptor (mt 111).1.desc).map (fun d => d.parameters.length) = some 1 := ⟨by decide +kernel, by decide +kernel, by decide +kernel⟩
theorem cl_111 : (mt 111).2.2.1 ≤ 45 := by decide
theorem cz_112 : (mt 112).2.2.2.2 = [] := rfl
theorem cc_112 : Cond.code (mt 112).1 (mt 112).2.1 (mt 112).2.2.1 (mt 112).2.2.2.1 ∈ lw_g := mG 805 (by decide +kernel) rfl
theorem ci_112 : Cond.initialized (mt 112).1.cls ∈ lw_g := w_94
theorem cm_112 : Cond.instanceMethod (mt 112).1 ∈ lw_g := w_803
theorem cs_112 : Cond.selects (mt 112).1.cls (mt 112).1 (mt 112).1 ∈ lw_g := w_804
theorem cd_112 : (mt 112).1.cls ≠ "java/lang/invoke/MethodHandle" ∧ (mt 112).1.cls ≠ "java/lang/invoke/VarHandle" ∧ (parseMethodDescriptor (mt 112).1.desc).map (fun d => d.parameters.length) = some 1 := ⟨by decide +kernel, by decide +kernel, by decide +kernel⟩
theorem cl_112 : (mt 112).2.2.1 ≤ 45 := by decide
theorem cz_113 : (mt 113).2.2.2.2 = [] := rfl
theorem cc_113 : Cond.code (mt 113).1 (mt 113).2.1 (mt 113).2.2.1 (mt 113).2.2.2.1 ∈ lw_g := mG 1067 (by decide +kernel) rfl
theorem ci_113 : Cond.initialized (mt 113).1.cls ∈ lw_g := w_94
theorem cm_113 : Cond.instanceMethod (mt 113).1 ∈ lw_g := w_1065
theorem cs_113 : Cond.selects (mt 113).1.cls (mt 113).1 (mt 113).1 ∈ lw_g := w_1066
theorem cd_113 : (mt 113).1.cls ≠ "java/lang/invoke/MethodHandle" ∧ (mt 113).1.cls ≠ "java/lang/invoke/VarHandle" ∧ (parseMethodDescriptor (mt 113).1.desc).map (fun d => d.parameters.length) = some 2 := ⟨by decide +kernel, by decide +kernel, by decide +kernel⟩
theorem cl_113 : (mt 113).2.2.1 ≤ 45 := by decide
theorem cz_114 : (mt 114).2.2.2.2 = [] := rfl
theorem cc_114 : Cond.code (mt 114).1 (mt 114).2.1 (mt 114).2.2.1 (mt 114).2.2.2.1 ∈ lw_g := mG 1071 (by decide +kernel) rfl
theorem ci_114 : Cond.initialized (mt 114).1.cls ∈ lw_g := w_94
theorem cm_114 : Cond.instanceMethod (mt 114).1 ∈ lw_g := w_1070
theorem cs_114 : Cond.selects (mt 114).1.cls (mt 114).1 (mt 114).1 ∈ lw_g := w_16
theorem cd_114 : (mt 114).1.cls ≠ "java/lang/invoke/MethodHandle" ∧ (mt 114).1.cls ≠ "java/lang/invoke/VarHandle" ∧ (parseMethodDescriptor (mt 114).1.desc).map (fun d => d.parameters.length) = some 0 := ⟨by decide +kernel, by decide +kernel, by decide +kernel⟩
theorem cl_114 : (mt 114).2.2.1 ≤ 45 := by decide
theorem cz_115 : (mt 115).2.2.2.2 = [] := rfl
theorem cc_115 : Cond.code (mt 115).1 (mt 115).2.1 (mt 115).2.2.1 (mt 115).2.2.2.1 ∈ lw_g := mG 1104 (by decide +kernel) rfl
theorem ci_115 : Cond.initialized (mt 115).1.cls ∈ lw_g := w_94
theorem cm_115 : Cond.instanceMethod (mt 115).1 ∈ lw_g := w_1103
theorem cs_115 : Cond.selects (mt 115).1.cls (mt 115).1 (mt 115).1 ∈ lw_g := w_19
theorem cd_115 : (mt 115).1.cls ≠ "java/lang/invoke/MethodHandle" ∧ (mt 115).1.cls ≠ "java/lang/invoke/VarHandle" ∧ (parseMethodDescriptor (mt 115).1.desc).map (fun d => d.parameters.length) = some 2 := ⟨by decide +kernel, by decide +kernel, by decide +kernel⟩
theorem cl_115 : (mt 115).2.2.1 ≤ 45 := by decide
theorem cz_116 : (mt 116).2.2.2.2 = [] := rfl
theorem cc_116 : Cond.code (mt 116).1 (mt 116).2.1 (mt 116).2.2.1 (mt 116).2.2.2.1 ∈ lw_g := mG 1090 (by decide +kernel) rfl
theorem ci_116 : Cond.initialized (mt 116).1.cls ∈ lw_g := w_94
theorem cm_116 : Cond.instanceMethod (mt 116).1 ∈ lw_g := w_1089
theorem cs_116 : Cond.selects (mt 116).1.cls (mt 116).1 (mt 116).1 ∈ lw_g := w_18
theorem cd_116 : (mt 116).1.cls ≠ "java/lang/invoke/MethodHandle" ∧ (mt 116).1.cls ≠ "java/lang/invoke/VarHandle" ∧ (parseMethodDescriptor (mt 116).1.desc).map (fun d => d.parameters.length) = some 1 := ⟨by decide +kernel, by decide +kernel, by decide +kernel⟩
theorem cl_116 : (mt 116).2.2.1 ≤ 45 := by decide
theorem cz_117 : (mt 117).2.2.2.2 = [] := rfl
theorem cc_117 : Cond.code (mt 117).1 (mt 117).2.1 (mt 117).2.2.1 (mt 117).2.2.2.1 ∈ lw_g := mG 1086 (by decide +kernel) rfl
theorem ci_117 : Cond.initialized (mt 117).1.cls ∈ lw_g := w_94
theorem cm_117 : Cond.instanceMethod (mt 117).1 ∈ lw_g := w_1085
theorem cs_117 : Cond.selects (mt 117).1.cls (mt 117).1 (mt 117).1 ∈ lw_g := w_17
theorem cd_117 : (mt 117).1.cls ≠ "java/lang/invoke/MethodHandle" ∧ (mt 117).1.cls ≠ "java/lang/invoke/VarHandle" ∧ (parseMethodDescriptor (mt 117).1.desc).map (fun d => d.parameters.length) = some 1 := ⟨by decide +kernel, by decide +kernel, by decide +kernel⟩
theorem cl_117 : (mt 117).2.2.1 ≤ 45 := by decide
theorem cz_118 : (mt 118).2.2.2.2 = [] := rfl
theorem cc_118 : Cond.code (mt 118).1 (mt 118).2.1 (mt 118).2.2.1 (mt 118).2.2.2.1 ∈ lw_g := mG 157 (by decide +kernel) rfl
theorem ci_118 : Cond.initialized (mt 118).1.cls ∈ lw_g := w_86
theorem cm_118 : Cond.instanceMethod (mt 118).1 ∈ lw_g := w_156
theorem cd_118 : (mt 118).1.cls ≠ "java/lang/invoke/MethodHandle" ∧ (mt 118).1.cls ≠ "java/lang/invoke/VarHandle" ∧ (parseMethodDescriptor (mt 118).1.desc).map (fun d => d.parameters.length) = some 0 := ⟨by decide +kernel, by decide +kernel, by decide +kernel⟩
theorem cl_118 : (mt 118).2.2.1 ≤ 45 := by decide
theorem cz_119 : (mt 119).2.2.2.2 = [] := rfl
theorem cc_119 : Cond.code (mt 119).1 (mt 119).2.1 (mt 119).2.2.1 (mt 119).2.2.2.1 ∈ lw_g := mG 537 (by decide +kernel) rfl
theorem ci_119 : Cond.initialized (mt 119).1.cls ∈ lw_g := w_86
theorem cm_119 : Cond.instanceMethod (mt 119).1 ∈ lw_g := w_535
theorem cs_119 : Cond.selects (mt 119).1.cls (mt 119).1 (mt 119).1 ∈ lw_g := w_536
theorem cd_119 : (mt 119).1.cls ≠ "java/lang/invoke/MethodHandle" ∧ (mt 119).1.cls ≠ "java/lang/invoke/VarHandle" ∧ (parseMethodDescriptor (mt 119).1.desc).map (fun d => d.parameters.length) = some 0 := ⟨by decide +kernel, by decide +kernel, by decide +kernel⟩
theorem cl_119 : (mt 119).2.2.1 ≤ 45 := by decide
theorem cz_120 : (mt 120).2.2.2.2 = [] := rfl
theorem cc_120 : Cond.code (mt 120).1 (mt 120).2.1 (mt 120).2.2.1 (mt 120).2.2.2.1 ∈ lw_g := mG 1280 (by decide +kernel) rfl
theorem ci_120 : Cond.initialized (mt 120).1.cls ∈ lw_g := w_86
theorem cm_120 : Cond.instanceMethod (mt 120).1 ∈ lw_g := w_1278
theorem cs_120 : Cond.selects (mt 120).1.cls (mt 120).1 (mt 120).1 ∈ lw_g := w_1279
theorem cd_120 : (mt 120).1.cls ≠ "java/lang/invoke/MethodHandle" ∧ (mt 120).1.cls ≠ "java/lang/invoke/VarHandle" ∧ (parseMethodDescriptor (mt 120).1.desc).map (fun d => d.parameters.length) = some 0 := ⟨by decide +kernel, by decide +kernel, by decide +kernel⟩
theorem cl_120 : (mt 120).2.2.1 ≤ 45 := by decide
theorem cz_121 : (mt 121).2.2.2.2 = [] := rfl
theorem cc_121 : Cond.code (mt 121).1 (mt 121).2.1 (mt 121).2.2.1 (mt 121).2.2.2.1 ∈ lw_g := mG 745 (by decide +kernel) rfl
theorem ci_121 : Cond.initialized (mt 121).1.cls ∈ lw_g := w_86
theorem cm_121 : Cond.instanceMethod (mt 121).1 ∈ lw_g := w_743
theorem cs_121 : Cond.selects (mt 121).1.cls (mt 121).1 (mt 121).1 ∈ lw_g := w_744
theorem cd_121 : (mt 121).1.cls ≠ "java/lang/invoke/MethodHandle" ∧ (mt 121).1.cls ≠ "java/lang/invoke/VarHandle" ∧ (parseMethodDescriptor (mt 121).1.desc).map (fun d => d.parameters.length) = some 1 := ⟨by decide +kernel, by decide +kernel, by decide +kernel⟩
theorem cl_121 : (mt 121).2.2.1 ≤ 45 := by decide
theorem cz_122 : (mt 122).2.2.2.2 = [] := rfl
theorem cc_122 : Cond.code (mt 122).1 (mt 122).2.1 (mt 122).2.2.1 (mt 122).2.2.2.1 ∈ lw_g := mG 1285 (by decide +kernel) rfl
theorem ci_122 : Cond.initialized (mt 122).1.cls ∈ lw_g := w_86
theorem cm_122 : Cond.instanceMethod (mt 122).1 ∈ lw_g := w_1283
theorem cs_122 : Cond.selects (mt 122).1.cls (mt 122).1 (mt 122).1 ∈ lw_g := w_1284
theorem cd_122 : (mt 122).1.cls ≠ "java/lang/invoke/MethodHandle" ∧ (mt 122).1.cls ≠ "java/lang/invoke/VarHandle" ∧ (parseMethodDescriptor (mt 122).1.desc).map (fun d => d.parameters.length) = some 3 := ⟨by decide +kernel, by decide +kernel, by decide +kernel⟩
theorem cl_122 : (mt 122).2.2.1 ≤ 45 := by decide
theorem cz_123 : (mt 123).2.2.2.2 = [] := rfl
theorem cc_123 : Cond.code (mt 123).1 (mt 123).2.1 (mt 123).2.2.1 (mt 123).2.2.2.1 ∈ lw_g := mG 1298 (by decide +kernel) rfl
theorem ci_123 : Cond.initialized (mt 123).1.cls ∈ lw_g := w_86
theorem cm_123 : Cond.instanceMethod (mt 123).1 ∈ lw_g := w_1296
theorem cs_123 : Cond.selects (mt 123).1.cls (mt 123).1 (mt 123).1 ∈ lw_g := w_1297
theorem cd_123 : (mt 123).1.cls ≠ "java/lang/invoke/MethodHandle" ∧ (mt 123).1.cls ≠ "java/lang/invoke/VarHandle" ∧ (parseMethodDescriptor (mt 123).1.desc).map (fun d => d.parameters.length) = some 1 := ⟨by decide +kernel, by decide +kernel, by decide +kernel⟩
theorem cl_123 : (mt 123).2.2.1 ≤ 45 := by decide
theorem cz_124 : (mt 124).2.2.2.2 = [] := rfl
theorem cc_124 : Cond.code (mt 124).1 (mt 124).2.1 (mt 124).2.2.1 (mt 124).2.2.2.1 ∈ lw_g := mG 1304 (by decide +kernel) rfl
theorem ci_124 : Cond.initialized (mt 124).1.cls ∈ lw_g := w_86
theorem cm_124 : Cond.instanceMethod (mt 124).1 ∈ lw_g := w_1302
theorem cs_124 : Cond.selects (mt 124).1.cls (mt 124).1 (mt 124).1 ∈ lw_g := w_1303
theorem cd_124 : (mt 124).1.cls ≠ "java/lang/invoke/MethodHandle" ∧ (mt 124).1.cls ≠ "java/lang/invoke/VarHandle" ∧ (parseMethodDescriptor (mt 124).1.desc).map (fun d => d.parameters.length) = some 5 := ⟨by decide +kernel, by decide +kernel, by decide +kernel⟩
theorem cl_124 : (mt 124).2.2.1 ≤ 45 := by decide
theorem cz_125 : (mt 125).2.2.2.2 = [] := rfl
theorem cc_125 : Cond.code (mt 125).1 (mt 125).2.1 (mt 125).2.2.1 (mt 125).2.2.2.1 ∈ lw_g := mG 750 (by decide +kernel) rfl
theorem ci_125 : Cond.initialized (mt 125).1.cls ∈ lw_g := w_86
theorem cm_125 : Cond.instanceMethod (mt 125).1 ∈ lw_g := w_748
theorem cs_125 : Cond.selects (mt 125).1.cls (mt 125).1 (mt 125).1 ∈ lw_g := w_749
theorem cd_125 : (mt 125).1.cls ≠ "java/lang/invoke/MethodHandle" ∧ (mt 125).1.cls ≠ "java/lang/invoke/VarHandle" ∧ (parseMethodDescriptor (mt 125).1.desc).map (fun d => d.parameters.length) = some 1 := ⟨by decide +kernel, by decide +kernel, by decide +kernel⟩
theorem cl_125 : (mt 125).2.2.1 ≤ 45 := by decide
theorem cz_126 : (mt 126).2.2.2.2 = [] := rfl
theorem cc_126 : Cond.code (mt 126).1 (mt 126).2.1 (mt 126).2.2.1 (mt 126).2.2.2.1 ∈ lw_g := mG 755 (by decide +kernel) rfl
theorem ci_126 : Cond.initialized (mt 126).1.cls ∈ lw_g := w_86
theorem cm_126 : Cond.instanceMethod (mt 126).1 ∈ lw_g := w_753
theorem cs_126 : Cond.selects (mt 126).1.cls (mt 126).1 (mt 126).1 ∈ lw_g := w_754
theorem cd_126 : (mt 126).1.cls ≠ "java/lang/invoke/MethodHandle" ∧ (mt 126).1.cls ≠ "java/lang/invoke/VarHandle" ∧ (parseMethodDescriptor (mt 126).1.desc).map (fun d => d.parameters.length) = some 1 := ⟨by decide +kernel, by decide +kernel, by decide +kernel⟩
theorem cl_126 : (mt 126).2.2.1 ≤ 45 := by decide
theorem cz_127 : (mt 127).2.2.2.2 = [] := rfl
theorem cc_127 : Cond.code (mt 127).1 (mt 127).2.1 (mt 127).2.2.1 (mt 127).2.2.2.1 ∈ lw_g := mG 1076 (by decide +kernel) rfl
theorem ci_127 : Cond.initialized (mt 127).1.cls ∈ lw_g := w_86
theorem cm_127 : Cond.instanceMethod (mt 127).1 ∈ lw_g := w_1074
theorem cs_127 : Cond.selects (mt 127).1.cls (mt 127).1 (mt 127).1 ∈ lw_g := w_1075
theorem cd_127 : (mt 127).1.cls ≠ "java/lang/invoke/MethodHandle" ∧ (mt 127).1.cls ≠ "java/lang/invoke/VarHandle" ∧ (parseMethodDescriptor (mt 127).1.desc).map (fun d => d.parameters.length) = some 1 := ⟨by decide +kernel, by decide +kernel, by decide +kernel⟩
theorem cl_127 : (mt 127).2.2.1 ≤ 45 := by decide
theorem cz_128 : (mt 128).2.2.2.2 = [] := rfl
theorem cc_128 : Cond.code (mt 128).1 (mt 128).2.1 (mt 128).2.2.1 (mt 128).2.2.2.1 ∈ lw_g := mG 759 (by decide +kernel) rfl
theorem ci_128 : Cond.initialized (mt 128).1.cls ∈ lw_g := w_86
theorem cm_128 : Cond.instanceMethod (mt 128).1 ∈ lw_g := w_757
theorem cs_128 : Cond.selects (mt 128).1.cls (mt 128).1 (mt 128).1 ∈ lw_g := w_758
theorem cd_128 : (mt 128).1.cls ≠ "java/lang/invoke/MethodHandle" ∧ (mt 128).1.cls ≠ "java/lang/invoke/VarHandle" ∧ (parseMethodDescriptor (mt 128).1.desc).map (fun d => d.parameters.length) = some 1 := ⟨by decide +kernel, by decide +kernel, by decide +kernel⟩
theorem cl_128 : (mt 128).2.2.1 ≤ 45 := by decide
theorem cz_129 : (mt 129).2.2.2.2 = [] := rfl
theorem cc_129 : Cond.code (mt 129).1 (mt 129).2.1 (mt 129).2.2.1 (mt 129).2.2.2.1 ∈ lw_g := mG 719 (by decide +kernel) rfl
theorem ci_129 : Cond.initialized (mt 129).1.cls ∈ lw_g := w_86
theorem cm_129 : Cond.instanceMethod (mt 129).1 ∈ lw_g := w_717
theorem cs_129 : Cond.selects (mt 129).1.cls (mt 129).1 (mt 129).1 ∈ lw_g := w_718
theorem cd_129 : (mt 129).1.cls ≠ "java/lang/invoke/MethodHandle" ∧ (mt 129).1.cls ≠ "java/lang/invoke/VarHandle" ∧ (parseMethodDescriptor (mt 129).1.desc).map (fun d => d.parameters.length) = some 1 := ⟨by decide +kernel, by decide +kernel, by decide +kernel⟩
theorem cl_129 : (mt 129).2.2.1 ≤ 45 := by decide
theorem cz_130 : (mt 130).2.2.2.2 = [] := rfl
theorem cc_130 : Cond.code (mt 130).1 (mt 130).2.1 (mt 130).2.2.1 (mt 130).2.2.2.1 ∈ lw_g := mG 1113 (by decide +kernel) rfl
theorem ci_130 : Cond.initialized (mt 130).1.cls ∈ lw_g := w_86
theorem cm_130 : Cond.instanceMethod (mt 130).1 ∈ lw_g := w_1112
theorem cs_130 : Cond.selects (mt 130).1.cls (mt 130).1 (mt 130).1 ∈ lw_g := w_20
theorem cd_130 : (mt 130).1.cls ≠ "java/lang/invoke/MethodHandle" ∧ (mt 130).1.cls ≠ "java/lang/invoke/VarHandle" ∧ (parseMethodDescriptor (mt 130).1.desc).map (fun d => d.parameters.length) = some 2 := ⟨by decide +kernel, by decide +kernel, by decide +kernel⟩
theorem cl_130 : (mt 130).2.2.1 ≤ 45 := by decide
theorem cz_131 : (mt 131).2.2.2.2 = [] := rfl
theorem cc_131 : Cond.code (mt 131).1 (mt 131).2.1 (mt 131).2.2.1 (mt 131).2.2.2.1 ∈ lw_g := mG 1121 (by decide +kernel) rfl
theorem ci_131 : Cond.initialized (mt 131).1.cls ∈ lw_g := w_86
theorem cm_131 : Cond.instanceMethod (mt 131).1 ∈ lw_g := w_1119
theorem cs_131 : Cond.selects (mt 131).1.cls (mt 131).1 (mt 131).1 ∈ lw_g := w_1120
theorem cd_131 : (mt 131).1.cls ≠ "java/lang/invoke/MethodHandle" ∧ (mt 131).1.cls ≠ "java/lang/invoke/VarHandle" ∧ (parseMethodDescriptor (mt 131).1.desc).map (fun d => d.parameters.length) = some 2 := ⟨by decide +kernel, by decide +kernel, by decide +kernel⟩
theorem cl_131 : (mt 131).2.2.1 ≤ 45 := by decide
theorem cz_132 : (mt 132).2.2.2.2 = [] := rfl
theorem cc_132 : Cond.code (mt 132).1 (mt 132).2.1 (mt 132).2.2.1 (mt 132).2.2.2.1 ∈ lw_g := mG 1117 (by decide +kernel) rfl
theorem ci_132 : Cond.initialized (mt 132).1.cls ∈ lw_g := w_86
theorem cm_132 : Cond.instanceMethod (mt 132).1 ∈ lw_g := w_1115
theorem cs_132 : Cond.selects (mt 132).1.cls (mt 132).1 (mt 132).1 ∈ lw_g := w_1116
theorem cd_132 : (mt 132).1.cls ≠ "java/lang/invoke/MethodHandle" ∧ (mt 132).1.cls ≠ "java/lang/invoke/VarHandle" ∧ (parseMethodDescriptor (mt 132).1.desc).map (fun d => d.parameters.length) = some 2 := ⟨by decide +kernel, by decide +kernel, by decide +kernel⟩
theorem cl_132 : (mt 132).2.2.1 ≤ 45 := by decide
theorem cz_133 : (mt 133).2.2.2.2 = [] := rfl
theorem cc_133 : Cond.code (mt 133).1 (mt 133).2.1 (mt 133).2.2.1 (mt 133).2.2.2.1 ∈ lw_g := mG 1141 (by decide +kernel) rfl
theorem ci_133 : Cond.initialized (mt 133).1.cls ∈ lw_g := w_86
theorem cm_133 : Cond.instanceMethod (mt 133).1 ∈ lw_g := w_1139
theorem cs_133 : Cond.selects (mt 133).1.cls (mt 133).1 (mt 133).1 ∈ lw_g := w_1140
theorem cd_133 : (mt 133).1.cls ≠ "java/lang/invoke/MethodHandle" ∧ (mt 133).1.cls ≠ "java/lang/invoke/VarHandle" ∧ (parseMethodDescriptor (mt 133).1.desc).map (fun d => d.parameters.length) = some 2 := ⟨by decide +kernel, by decide +kernel, by decide +kernel⟩
theorem cl_133 : (mt 133).2.2.1 ≤ 45 := by decide
theorem cz_134 : (mt 134).2.2.2.2 = [] := rfl
theorem cc_134 : Cond.code (mt 134).1 (mt 134).2.1 (mt 134).2.2.1 (mt 134).2.2.2.1 ∈ lw_g := mG 1109 (by decide +kernel) rfl
theorem ci_134 : Cond.initialized (mt 134).1.cls ∈ lw_g := w_86
theorem cm_134 : Cond.instanceMethod (mt 134).1 ∈ lw_g := w_1107
theorem cs_134 : Cond.selects (mt 134).1.cls (mt 134).1 (mt 134).1 ∈ lw_g := w_1108
theorem cd_134 : (mt 134).1.cls ≠ "java/lang/invoke/MethodHandle" ∧ (mt 134).1.cls ≠ "java/lang/invoke/VarHandle" ∧ (parseMethodDescriptor (mt 134).1.desc).map (fun d => d.parameters.length) = some 2 := ⟨by decide +kernel, by decide +kernel, by decide +kernel⟩
theorem cl_134 : (mt 134).2.2.1 ≤ 45 := by decide
theorem cz_135 : (mt 135).2.2.2.2 = [] := rfl
theorem cc_135 : Cond.code (mt 135).1 (mt 135).2.1 (mt 135).2.2.1 (mt 135).2.2.2.1 ∈ lw_g := mG 1242 (by decide +kernel) rfl
theorem ci_135 : Cond.initialized (mt 135).1.cls ∈ lw_g := w_86
theorem cm_135 : Cond.instanceMethod (mt 135).1 ∈ lw_g := w_1240
theorem cs_135 : Cond.selects (mt 135).1.cls (mt 135).1 (mt 135).1 ∈ lw_g := w_1241
theorem cd_135 : (mt 135).1.cls ≠ "java/lang/invoke/MethodHandle" ∧ (mt 135).1.cls ≠ "java/lang/invoke/VarHandle" ∧ (parseMethodDescriptor (mt 135).1.desc).map (fun d => d.parameters.length) = some 2 := ⟨by decide +kernel, by decide +kernel, by decide +kernel⟩
theorem cl_135 : (mt 135).2.2.1 ≤ 45 := by decide
theorem cz_136 : (mt 136).2.2.2.2 = [] := rfl
theorem cc_136 : Cond.code (mt 136).1 (mt 136).2.1 (mt 136).2.2.1 (mt 136).2.2.2.1 ∈ lw_g := mG 1236 (by decide +kernel) rfl
theorem ci_136 : Cond.initialized (mt 136).1.cls ∈ lw_g := w_86
theorem cm_136 : Cond.instanceMethod (mt 136).1 ∈ lw_g := w_1234
theorem cs_136 : Cond.selects (mt 136).1.cls (mt 136).1 (mt 136).1 ∈ lw_g := w_1235
theorem cd_136 : (mt 136).1.cls ≠ "java/lang/invoke/MethodHandle" ∧ (mt 136).1.cls ≠ "java/lang/invoke/VarHandle" ∧ (parseMethodDescriptor (mt 136).1.desc).map (fun d => d.parameters.length) = some 2 := ⟨by decide +kernel, by decide +kernel, by decide +kernel⟩
theorem cl_136 : (mt 136).2.2.1 ≤ 45 := by decide
theorem cz_137 : (mt 137).2.2.2.2 = [] := rfl
theorem cc_137 : Cond.code (mt 137).1 (mt 137).2.1 (mt 137).2.2.1 (mt 137).2.2.2.1 ∈ lw_g := mG 320 (by decide +kernel) rfl
theorem ci_137 : Cond.initialized (mt 137).1.cls ∈ lw_g := w_93
theorem cm_137 : Cond.instanceMethod (mt 137).1 ∈ lw_g := w_319
theorem cd_137 : (mt 137).1.cls ≠ "java/lang/invoke/MethodHandle" ∧ (mt 137).1.cls ≠ "java/lang/invoke/VarHandle" ∧ (parseMethodDescriptor (mt 137).1.desc).map (fun d => d.parameters.length) = some 2 := ⟨by decide +kernel, by decide +kernel, by decide +kernel⟩
theorem cl_137 : (mt 137).2.2.1 ≤ 45 := by decide
theorem cz_138 : (mt 138).2.2.2.2 = [] := rfl
theorem cc_138 : Cond.code (mt 138).1 (mt 138).2.1 (mt 138).2.2.1 (mt 138).2.2.2.1 ∈ lw_g := mG 325 (by decide +kernel) rfl
theorem ci_138 : Cond.initialized (mt 138).1.cls ∈ lw_g := w_93
theorem cm_138 : Cond.instanceMethod (mt 138).1 ∈ lw_g := w_324
theorem cs_138 : Cond.selects (mt 138).1.cls (mt 138).1 (mt 138).1 ∈ lw_g := w_0
theorem cd_138 : (mt 138).1.cls ≠ "java/lang/invoke/MethodHandle" ∧ (mt 138).1.cls ≠ "java/lang/invoke/VarHandle" ∧ (parseMethodDescriptor (mt 138).1.desc).map (fun d => d.parameters.length) = some 0 := ⟨by decide +kernel, by decide +kernel, by decide +kernel⟩
theorem cl_138 : (mt 138).2.2.1 ≤ 45 := by decide
theorem cz_139 : (mt 139).2.2.2.2 = [] := rfl
theorem cc_139 : Cond.code (mt 139).1 (mt 139).2.1 (mt 139).2.2.1 (mt 139).2.2.2.1 ∈ lw_g := mG 1020 (by decide +kernel) rfl
theorem ci_139 : Cond.initialized (mt 139).1.cls ∈ lw_g := w_93
theorem cm_139 : Cond.instanceMethod (mt 139).1 ∈ lw_g := w_1018
theorem cs_139 : Cond.selects (mt 139).1.cls (mt 139).1 (mt 139).1 ∈ lw_g := w_1019
theorem cd_139 : (mt 139).1.cls ≠ "java/lang/invoke/MethodHandle" ∧ (mt 139).1.cls ≠ "java/lang/invoke/VarHandle" ∧ (parseMethodDescriptor (mt 139).1.desc).map (fun d => d.parameters.length) = some 0 := ⟨by decide +kernel, by decide +kernel, by decide +kernel⟩
theorem cl_139 : (mt 139).2.2.1 ≤ 45 := by decide
theorem cz_140 : (mt 140).2.2.2.2 = [] := rfl
theorem cc_140 : Cond.code (mt 140).1 (mt 140).2.1 (mt 140).2.2.1 (mt 140).2.2.2.1 ∈ lw_g := mG 1029 (by decide +kernel) rfl
theorem ci_140 : Cond.initialized (mt 140).1.cls ∈ lw_g := w_93
theorem cm_140 : Cond.instanceMethod (mt 140).1 ∈ lw_g := w_1028
theorem cs_140 : Cond.selects (mt 140).1.cls (mt 140).1 (mt 140).1 ∈ lw_g := w_14
theorem cd_140 : (mt 140).1.cls ≠ "java/lang/invoke/MethodHandle" ∧ (mt 140).1.cls ≠ "java/lang/invoke/VarHandle" ∧ (parseMethodDescriptor (mt 140).1.desc).map (fun d => d.parameters.length) = some 2 := ⟨by decide +kernel, by decide +kernel, by decide +kernel⟩
theorem cl_140 : (mt 140).2.2.1 ≤ 45 := by decide
theorem cz_141 : (mt 141).2.2.2.2 = [] := rfl
theorem cc_141 : Cond.code (mt 141).1 (mt 141).2.1 (mt 141).2.2.1 (mt 141).2.2.2.1 ∈ lw_g := mG 1051 (by decide +kernel) rfl
theorem ci_141 : Cond.initialized (mt 141).1.cls ∈ lw_g := w_93
theorem cm_141 : Cond.instanceMethod (mt 141).1 ∈ lw_g := w_1050
theorem cs_141 : Cond.selects (mt 141).1.cls (mt 141).1 (mt 141).1 ∈ lw_g := w_15
theorem cd_141 : (mt 141).1.cls ≠ "java/lang/invoke/MethodHandle" ∧ (mt 141).1.cls ≠ "java/lang/invoke/VarHandle" ∧ (parseMethodDescriptor (mt 141).1.desc).map (fun d => d.parameters.length) = some 3 := ⟨by decide +kernel, by decide +kernel, by decide +kernel⟩
theorem cl_141 : (mt 141).2.2.1 ≤ 45 := by decide
theorem cz_142 : (mt 142).2.2.2.2 = [] := rfl
theorem cc_142 : Cond.code (mt 142).1 (mt 142).2.1 (mt 142).2.2.1 (mt 142).2.2.2.1 ∈ lw_g := mG 786 (by decide +kernel) rfl
theorem ci_142 : Cond.initialized (mt 142).1.cls ∈ lw_g := w_93
theorem cm_142 : Cond.instanceMethod (mt 142).1 ∈ lw_g := w_784
theorem cs_142 : Cond.selects (mt 142).1.cls (mt 142).1 (mt 142).1 ∈ lw_g := w_785
theorem cd_142 : (mt 142).1.cls ≠ "java/lang/invoke/MethodHandle" ∧ (mt 142).1.cls ≠ "java/lang/invoke/VarHandle" ∧ (parseMethodDescriptor (mt 142).1.desc).map (fun d => d.parameters.length) = some 1 := ⟨by decide +kernel, by decide +kernel, by decide +kernel⟩
theorem cl_142 : (mt 142).2.2.1 ≤ 45 := by decide
theorem cz_143 : (mt 143).2.2.2.2 = [] := rfl
theorem cc_143 : Cond.code (mt 143).1 (mt 143).2.1 (mt 143).2.2.1 (mt 143).2.2.2.1 ∈ lw_g := mG 791 (by decide +kernel) rfl
theorem ci_143 : Cond.initialized (mt 143).1.cls ∈ lw_g := w_93
theorem cm_143 : Cond.instanceMethod (mt 143).1 ∈ lw_g := w_789
theorem cs_143 : Cond.selects (mt 143).1.cls (mt 143).1 (mt 143).1 ∈ lw_g := w_790
theorem cd_143 : (mt 143).1.cls ≠ "java/lang/invoke/MethodHandle" ∧ (mt 143).1.cls ≠ "java/lang/invoke/VarHandle" ∧ (parseMethodDescriptor (mt 143).1.desc).map (fun d => d.parameters.length) = some 1 := ⟨by decide +kernel, by decide +kernel, by decide +kernel⟩
theorem cl_143 : (mt 143).2.2.1 ≤ 45 := by decide
theorem cz_144 : (mt 144).2.2.2.2 = [] := rfl
theorem cc_144 : Cond.code (mt 144).1 (mt 144).2.1 (mt 144).2.2.1 (mt 144).2.2.2.1 ∈ lw_g := mG 1095 (by decide +kernel) rfl
theorem ci_144 : Cond.initialized (mt 144).1.cls ∈ lw_g := w_93
theorem cm_144 : Cond.instanceMethod (mt 144).1 ∈ lw_g := w_1093
theorem cs_144 : Cond.selects (mt 144).1.cls (mt 144).1 (mt 144).1 ∈ lw_g := w_1094
theorem cd_144 : (mt 144).1.cls ≠ "java/lang/invoke/MethodHandle" ∧ (mt 144).1.cls ≠ "java/lang/invoke/VarHandle" ∧ (parseMethodDescriptor (mt 144).1.desc).map (fun d => d.parameters.length) = some 1 := ⟨by decide +kernel, by decide +kernel, by decide +kernel⟩
theorem cl_144 : (mt 144).2.2.1 ≤ 45 := by decide
theorem cz_145 : (mt 145).2.2.2.2 = [] := rfl
theorem cc_145 : Cond.code (mt 145).1 (mt 145).2.1 (mt 145).2.2.1 (mt 145).2.2.2.1 ∈ lw_g := mG 1182 (by decide +kernel) rfl
theorem ci_145 : Cond.initialized (mt 145).1.cls ∈ lw_g := w_93
theorem cm_145 : Cond.instanceMethod (mt 145).1 ∈ lw_g := w_1180
theorem cs_145 : Cond.selects (mt 145).1.cls (mt 145).1 (mt 145).1 ∈ lw_g := w_1181
theorem cd_145 : (mt 145).1.cls ≠ "java/lang/invoke/MethodHandle" ∧ (mt 145).1.cls ≠ "java/lang/invoke/VarHandle" ∧ (parseMethodDescriptor (mt 145).1.desc).map (fun d => d.parameters.length) = some 1 := ⟨by decide +kernel, by decide +kernel, by decide +kernel⟩
theorem cl_145 : (mt 145).2.2.1 ≤ 45 := by decide
theorem cz_146 : (mt 146).2.2.2.2 = [] := rfl
theorem cc_146 : Cond.code (mt 146).1 (mt 146).2.1 (mt 146).2.2.1 (mt 146).2.2.2.1 ∈ lw_g := mG 1099 (by decide +kernel) rfl
theorem ci_146 : Cond.initialized (mt 146).1.cls ∈ lw_g := w_93
theorem cm_146 : Cond.instanceMethod (mt 146).1 ∈ lw_g := w_1097
theorem cs_146 : Cond.selects (mt 146).1.cls (mt 146).1 (mt 146).1 ∈ lw_g := w_1098
theorem cd_146 : (mt 146).1.cls ≠ "java/lang/invoke/MethodHandle" ∧ (mt 146).1.cls ≠ "java/lang/invoke/VarHandle" ∧ (parseMethodDescriptor (mt 146).1.desc).map (fun d => d.parameters.length) = some 1 := ⟨by decide +kernel, by decide +kernel, by decide +kernel⟩
theorem cl_146 : (mt 146).2.2.1 ≤ 45 := by decide
theorem cz_147 : (mt 147).2.2.2.2 = [] := rfl
theorem cc_147 : Cond.code (mt 147).1 (mt 147).2.1 (mt 147).2.2.1 (mt 147).2.2.2.1 ∈ lw_g := mG 1173 (by decide +kernel) rfl
theorem ci_147 : Cond.initialized (mt 147).1.cls ∈ lw_g := w_93
theorem cm_147 : Cond.instanceMethod (mt 147).1 ∈ lw_g := w_1171
theorem cs_147 : Cond.selects (mt 147).1.cls (mt 147).1 (mt 147).1 ∈ lw_g := w_1172
theorem cd_147 : (mt 147).1.cls ≠ "java/lang/invoke/MethodHandle" ∧ (mt 147).1.cls ≠ "java/lang/invoke/VarHandle" ∧ (parseMethodDescriptor (mt 147).1.desc).map (fun d => d.parameters.length) = some 1 := ⟨by decide +kernel, by decide +kernel, by decide +kernel⟩
theorem cl_147 : (mt 147).2.2.1 ≤ 45 := by decide
theorem cz_148 : (mt 148).2.2.2.2 = [] := rfl
theorem cc_148 : Cond.code (mt 148).1 (mt 148).2.1 (mt 148).2.2.1 (mt 148).2.2.2.1 ∈ lw_g := mG 1169 (by decide +kernel) rfl
theorem ci_148 : Cond.initialized (mt 148).1.cls ∈ lw_g := w_93
theorem cm_148 : Cond.instanceMethod (mt 148).1 ∈ lw_g := w_1167
theorem cs_148 : Cond.selects (mt 148).1.cls (mt 148).1 (mt 148).1 ∈ lw_g := w_1168
theorem cd_148 : (mt 148).1.cls ≠ "java/lang/invoke/MethodHandle" ∧ (mt 148).1.cls ≠ "java/lang/invoke/VarHandle" ∧ (parseMethodDescriptor (mt 148).1.desc).map (fun d => d.parameters.length) = some 1 := ⟨by decide +kernel, by decide +kernel, by decide +kernel⟩
theorem cl_148 : (mt 148).2.2.1 ≤ 45 := by decide
theorem cz_149 : (mt 149).2.2.2.2 = [] := rfl
theorem cc_149 : Cond.code (mt 149).1 (mt 149).2.1 (mt 149).2.2.1 (mt 149).2.2.2.1 ∈ lw_g := mG 1211 (by decide +kernel) rfl
theorem ci_149 : Cond.initialized (mt 149).1.cls ∈ lw_g := w_93
theorem cm_149 : Cond.instanceMethod (mt 149).1 ∈ lw_g := w_1209
theorem cs_149 : Cond.selects (mt 149).1.cls (mt 149).1 (mt 149).1 ∈ lw_g := w_1210
theorem cd_149 : (mt 149).1.cls ≠ "java/lang/invoke/MethodHandle" ∧ (mt 149).1.cls ≠ "java/lang/invoke/VarHandle" ∧ (parseMethodDescriptor (mt 149).1.desc).map (fun d => d.parameters.length) = some 1 := ⟨by decide +kernel, by decide +kernel, by decide +kernel⟩
theorem cl_149 : (mt 149).2.2.1 ≤ 45 := by decide
theorem cz_150 : (mt 150).2.2.2.2 = [] := rfl
theorem cc_150 : Cond.code (mt 150).1 (mt 150).2.1 (mt 150).2.2.1 (mt 150).2.2.2.1 ∈ lw_g := mG 292 (by decide +kernel) rfl
theorem ci_150 : Cond.initialized (mt 150).1.cls ∈ lw_g := w_92
theorem cm_150 : Cond.instanceMethod (mt 150).1 ∈ lw_g := w_291
theorem cd_150 : (mt 150).1.cls ≠ "java/lang/invoke/MethodHandle" ∧ (mt 150).1.cls ≠ "java/lang/invoke/VarHandle" ∧ (parseMethodDescriptor (mt 150).1.desc).map (fun d => d.parameters.length) = some 2 := ⟨by decide +kernel, by decide +kernel, by decide +kernel⟩
theorem cl_150 : (mt 150).2.2.1 ≤ 45 := by decide
theorem cz_151 : (mt 151).2.2.2.2 = [] := rfl
theorem cc_151 : Cond.code (mt 151).1 (mt 151).2.1 (mt 151).2.2.1 (mt 151).2.2.2.1 ∈ lw_g := mG 583 (by decide +kernel) rfl
theorem ci_151 : Cond.initialized (mt 151).1.cls ∈ lw_g := w_92
theorem cm_151 : Cond.instanceMethod (mt 151).1 ∈ lw_g := w_581
theorem cs_151 : Cond.selects (mt 151).1.cls (mt 151).1 (mt 151).1 ∈ lw_g := w_582
theorem cd_151 : (mt 151).1.cls ≠ "java/lang/invoke/MethodHandle" ∧ (mt 151).1.cls ≠ "java/lang/invoke/VarHandle" ∧ (parseMethodDescriptor (mt 151).1.desc).map (fun d => d.parameters.length) = some 0 := ⟨by decide +kernel, by decide +kernel, by decide +kernel⟩
theorem cl_151 : (mt 151).2.2.1 ≤ 45 := by decide
theorem cz_152 : (mt 152).2.2.2.2 = [] := rfl
theorem cc_152 : Cond.code (mt 152).1 (mt 152).2.1 (mt 152).2.2.1 (mt 152).2.2.2.1 ∈ lw_g := mG 1025 (by decide +kernel) rfl
theorem ci_152 : Cond.initialized (mt 152).1.cls ∈ lw_g := w_92
theorem cm_152 : Cond.instanceMethod (mt 152).1 ∈ lw_g := w_1023
theorem cs_152 : Cond.selects (mt 152).1.cls (mt 152).1 (mt 152).1 ∈ lw_g := w_1024
theorem cd_152 : (mt 152).1.cls ≠ "java/lang/invoke/MethodHandle" ∧ (mt 152).1.cls ≠ "java/lang/invoke/VarHandle" ∧ (parseMethodDescriptor (mt 152).1.desc).map (fun d => d.parameters.length) = some 1 := ⟨by decide +kernel, by decide +kernel, by decide +kernel⟩
theorem cl_152 : (mt 152).2.2.1 ≤ 45 := by decide
theorem cz_153 : (mt 153).2.2.2.2 = [] := rfl
theorem cc_153 : Cond.code (mt 153).1 (mt 153).2.1 (mt 153).2.2.1 (mt 153).2.2.2.1 ∈ lw_g := mG 732 (by decide +kernel) rfl
theorem ci_153 : Cond.initialized (mt 153).1.cls ∈ lw_g := w_92
theorem cm_153 : Cond.instanceMethod (mt 153).1 ∈ lw_g := w_730
theorem cs_153 : Cond.selects (mt 153).1.cls (mt 153).1 (mt 153).1 ∈ lw_g := w_731
theorem cd_153 : (mt 153).1.cls ≠ "java/lang/invoke/MethodHandle" ∧ (mt 153).1.cls ≠ "java/lang/invoke/VarHandle" ∧ (parseMethodDescriptor (mt 153).1.desc).map (fun d => d.parameters.length) = some 1 := ⟨by decide +kernel, by decide +kernel, by decide +kernel⟩
theorem cl_153 : (mt 153).2.2.1 ≤ 45 := by decide
theorem cz_154 : (mt 154).2.2.2.2 = [] := rfl
theorem cc_154 : Cond.code (mt 154).1 (mt 154).2.1 (mt 154).2.2.1 (mt 154).2.2.2.1 ∈ lw_g := mG 1081 (by decide +kernel) rfl
theorem ci_154 : Cond.initialized (mt 154).1.cls ∈ lw_g := w_92
theorem cm_154 : Cond.instanceMethod (mt 154).1 ∈ lw_g := w_1079
theorem cs_154 : Cond.selects (mt 154).1.cls (mt 154).1 (mt 154).1 ∈ lw_g := w_1080
theorem cd_154 : (mt 154).1.cls ≠ "java/lang/invoke/MethodHandle" ∧ (mt 154).1.cls ≠ "java/lang/invoke/VarHandle" ∧ (parseMethodDescriptor (mt 154).1.desc).map (fun d => d.parameters.length) = some 1 := ⟨by decide +kernel, by decide +kernel, by decide +kernel⟩
theorem cl_154 : (mt 154).2.2.1 ≤ 45 := by decide
theorem cz_155 : (mt 155).2.2.2.2 = [] := rfl
theorem cc_155 : Cond.code (mt 155).1 (mt 155).2.1 (mt 155).2.2.1 (mt 155).2.2.2.1 ∈ lw_g := mG 972 (by decide +kernel) rfl
theorem ci_155 : Cond.initialized (mt 155).1.cls ∈ lw_g := w_92
theorem cm_155 : Cond.instanceMethod (mt 155).1 ∈ lw_g := w_970
theorem cs_155 : Cond.selects (mt 155).1.cls (mt 155).1 (mt 155).1 ∈ lw_g := w_971
theorem cd_155 : (mt 155).1.cls ≠ "java/lang/invoke/MethodHandle" ∧ (mt 155).1.cls ≠ "java/lang/invoke/VarHandle" ∧ (parseMethodDescriptor (mt 155).1.desc).map (fun d => d.parameters.length) = some 2 := ⟨by decide +kernel, by decide +kernel, by decide +kernel⟩
theorem cl_155 : (mt 155).2.2.1 ≤ 45 := by decide
theorem cz_156 : (mt 156).2.2.2.2 = [] := rfl
theorem cc_156 : Cond.code (mt 156).1 (mt 156).2.1 (mt 156).2.2.1 (mt 156).2.2.2.1 ∈ lw_g := mG 985 (by decide +kernel) rfl
theorem ci_156 : Cond.initialized (mt 156).1.cls ∈ lw_g := w_92
theorem cm_156 : Cond.instanceMethod (mt 156).1 ∈ lw_g := w_984
theorem cs_156 : Cond.selects (mt 156).1.cls (mt 156).1 (mt 156).1 ∈ lw_g := w_10
theorem cd_156 : (mt 156).1.cls ≠ "java/lang/invoke/MethodHandle" ∧ (mt 156).1.cls ≠ "java/lang/invoke/VarHandle" ∧ (parseMethodDescriptor (mt 156).1.desc).map (fun d => d.parameters.length) = some 1 := ⟨by decide +kernel, by decide +kernel, by decide +kernel⟩
theorem cl_156 : (mt 156).2.2.1 ≤ 45 := by decide
theorem cz_157 : (mt 157).2.2.2.2 = [] := rfl
theorem cc_157 : Cond.code (mt 157).1 (mt 157).2.1 (mt 157).2.2.1 (mt 157).2.2.2.1 ∈ lw_g := mG 1003 (by decide +kernel) rfl
theorem ci_157 : Cond.initialized (mt 157).1.cls ∈ lw_g := w_92
theorem cm_157 : Cond.instanceMethod (mt 157).1 ∈ lw_g := w_1002
theorem cs_157 : Cond.selects (mt 157).1.cls (mt 157).1 (mt 157).1 ∈ lw_g := w_12
theorem cd_157 : (mt 157).1.cls ≠ "java/lang/invoke/MethodHandle" ∧ (mt 157).1.cls ≠ "java/lang/invoke/VarHandle" ∧ (parseMethodDescriptor (mt 157).1.desc).map (fun d => d.parameters.length) = some 2 := ⟨by decide +kernel, by decide +kernel, by decide +kernel⟩
theorem cl_157 : (mt 157).2.2.1 ≤ 45 := by decide
theorem cz_158 : (mt 158).2.2.2.2 = [] := rfl
theorem cc_158 : Cond.code (mt 158).1 (mt 158).2.1 (mt 158).2.2.1 (mt 158).2.2.2.1 ∈ lw_g := mG 1012 (by decide +kernel) rfl
theorem ci_158 : Cond.initialized (mt 158).1.cls ∈ lw_g := w_92
theorem cm_158 : Cond.instanceMethod (mt 158).1 ∈ lw_g := w_1011
theorem cs_158 : Cond.selects (mt 158).1.cls (mt 158).1 (mt 158).1 ∈ lw_g := w_13
theorem cd_158 : (mt 158).1.cls ≠ "java/lang/invoke/MethodHandle" ∧ (mt 158).1.cls ≠ "java/lang/invoke/VarHandle" ∧ (parseMethodDescriptor (mt 158).1.desc).map (fun d => d.parameters.length) = some 1 := ⟨by decide +kernel, by decide +kernel, by decide +kernel⟩
theorem cl_158 : (mt 158).2.2.1 ≤ 45 := by decide
theorem cz_159 : (mt 159).2.2.2.2 = [] := rfl
theorem cc_159 : Cond.code (mt 159).1 (mt 159).2.1 (mt 159).2.2.1 (mt 159).2.2.2.1 ∈ lw_g := mG 990 (by decide +kernel) rfl
theorem ci_159 : Cond.initialized (mt 159).1.cls ∈ lw_g := w_92
theorem cm_159 : Cond.instanceMethod (mt 159).1 ∈ lw_g := w_989
theorem cs_159 : Cond.selects (mt 159).1.cls (mt 159).1 (mt 159).1 ∈ lw_g := w_11
theorem cd_159 : (mt 159).1.cls ≠ "java/lang/invoke/MethodHandle" ∧ (mt 159).1.cls ≠ "java/lang/invoke/VarHandle" ∧ (parseMethodDescriptor (mt 159).1.desc).map (fun d => d.parameters.length) = some 1 := ⟨by decide +kernel, by decide +kernel, by decide +kernel⟩
theorem cl_159 : (mt 159).2.2.1 ≤ 45 := by decide
theorem cz_161 : (mt 161).2.2.2.2 = [] := rfl
theorem cc_161 : Cond.code (mt 161).1 (mt 161).2.1 (mt 161).2.2.1 (mt 161).2.2.2.1 ∈ lw_g := mG 1254 (by decide +kernel) rfl
theorem ci_161 : Cond.initialized (mt 161).1.cls ∈ lw_g := w_84
theorem cm_161 : Cond.instanceMethod (mt 161).1 ∈ lw_g := w_1252
theorem cs_161 : Cond.selects (mt 161).1.cls (mt 161).1 (mt 161).1 ∈ lw_g := w_1253
theorem cd_161 : (mt 161).1.cls ≠ "java/lang/invoke/MethodHandle" ∧ (mt 161).1.cls ≠ "java/lang/invoke/VarHandle" ∧ (parseMethodDescriptor (mt 161).1.desc).map (fun d => d.parameters.length) = some 0 := ⟨by decide +kernel, by decide +kernel, by decide +kernel⟩
theorem cl_161 : (mt 161).2.2.1 ≤ 45 := by decide
theorem cz_162 : (mt 162).2.2.2.2 = [] := rfl
theorem cc_162 : Cond.code (mt 162).1 (mt 162).2.1 (mt 162).2.2.1 (mt 162).2.2.2.1 ∈ lw_g := mG 1272 (by decide +kernel) rfl
theorem ci_162 : Cond.initialized (mt 162).1.cls ∈ lw_g := w_84
theorem cm_162 : Cond.instanceMethod (mt 162).1 ∈ lw_g := w_1270
theorem cs_162 : Cond.selects (mt 162).1.cls (mt 162).1 (mt 162).1 ∈ lw_g := w_1271
theorem cd_162 : (mt 162).1.cls ≠ "java/lang/invoke/MethodHandle" ∧ (mt 162).1.cls ≠ "java/lang/invoke/VarHandle" ∧ (parseMethodDescriptor (mt 162).1.desc).map (fun d => d.parameters.length) = some 3 := ⟨by decide +kernel, by decide +kernel, by decide +kernel⟩
theorem cl_162 : (mt 162).2.2.1 ≤ 45 := by decide
theorem cz_163 : (mt 163).2.2.2.2 = [] := rfl
theorem cc_163 : Cond.code (mt 163).1 (mt 163).2.1 (mt 163).2.2.1 (mt 163).2.2.2.1 ∈ lw_g := mG 1293 (by decide +kernel) rfl
theorem ci_163 : Cond.initialized (mt 163).1.cls ∈ lw_g := w_84
theorem cm_163 : Cond.instanceMethod (mt 163).1 ∈ lw_g := w_1291
theorem cs_163 : Cond.selects (mt 163).1.cls (mt 163).1 (mt 163).1 ∈ lw_g := w_1292
theorem cd_163 : (mt 163).1.cls ≠ "java/lang/invoke/MethodHandle" ∧ (mt 163).1.cls ≠ "java/lang/invoke/VarHandle" ∧ (parseMethodDescriptor (mt 163).1.desc).map (fun d => d.parameters.length) = some 2 := ⟨by decide +kernel, by decide +kernel, by decide +kernel⟩
theorem cl_163 : (mt 163).2.2.1 ≤ 45 := by decide
theorem cz_164 : (mt 164).2.2.2.2 = [] := rfl
theorem cc_164 : Cond.code (mt 164).1 (mt 164).2.1 (mt 164).2.2.1 (mt 164).2.2.2.1 ∈ lw_g := mG 1312 (by decide +kernel) rfl
theorem ci_164 : Cond.initialized (mt 164).1.cls ∈ lw_g := w_84
theorem cm_164 : Cond.instanceMethod (mt 164).1 ∈ lw_g := w_1310
theorem cs_164 : Cond.selects (mt 164).1.cls (mt 164).1 (mt 164).1 ∈ lw_g := w_1311
theorem cd_164 : (mt 164).1.cls ≠ "java/lang/invoke/MethodHandle" ∧ (mt 164).1.cls ≠ "java/lang/invoke/VarHandle" ∧ (parseMethodDescriptor (mt 164).1.desc).map (fun d => d.parameters.length) = some 4 := ⟨by decide +kernel, by decide +kernel, by decide +kernel⟩
theorem cl_164 : (mt 164).2.2.1 ≤ 45 := by decide
theorem cz_165 : (mt 165).2.2.2.2 = [] := rfl
theorem cc_165 : Cond.code (mt 165).1 (mt 165).2.1 (mt 165).2.2.1 (mt 165).2.2.2.1 ∈ lw_g := mG 1328 (by decide +kernel) rfl
theorem ci_165 : Cond.initialized (mt 165).1.cls ∈ lw_g := w_84
theorem cm_165 : Cond.instanceMethod (mt 165).1 ∈ lw_g := w_1326
theorem cs_165 : Cond.selects (mt 165).1.cls (mt 165).1 (mt 165).1 ∈ lw_g := w_1327
theorem cd_165 : (mt 165).1.cls ≠ "java/lang/invoke/MethodHandle" ∧ (mt 165).1.cls ≠ "java/lang/invoke/VarHandle" ∧ (parseMethodDescriptor (mt 165).1.desc).map (fun d => d.parameters.length) = some 3 := ⟨by decide +kernel, by decide +kernel, by decide +kernel⟩
theorem cl_165 : (mt 165).2.2.1 ≤ 45 := by decide
theorem cz_166 : (mt 166).2.2.2.2 = [] := rfl
theorem cc_166 : Cond.code (mt 166).1 (mt 166).2.1 (mt 166).2.2.1 (mt 166).2.2.2.1 ∈ lw_g := mG 1335 (by decide +kernel) rfl
theorem ci_166 : Cond.initialized (mt 166).1.cls ∈ lw_g := w_84
theorem cm_166 : Cond.instanceMethod (mt 166).1 ∈ lw_g := w_1333
theorem cs_166 : Cond.selects (mt 166).1.cls (mt 166).1 (mt 166).1 ∈ lw_g := w_1334
theorem cd_166 : (mt 166).1.cls ≠ "java/lang/invoke/MethodHandle" ∧ (mt 166).1.cls ≠ "java/lang/invoke/VarHandle" ∧ (parseMethodDescriptor (mt 166).1.desc).map (fun d => d.parameters.length) = some 4 := ⟨by decide +kernel, by decide +kernel, by decide +kernel⟩
theorem cl_166 : (mt 166).2.2.1 ≤ 45 := by decide
theorem cz_167 : (mt 167).2.2.2.2 = [] := rfl
theorem cc_167 : Cond.code (mt 167).1 (mt 167).2.1 (mt 167).2.2.1 (mt 167).2.2.2.1 ∈ lw_g := mG 1352 (by decide +kernel) rfl
theorem ci_167 : Cond.initialized (mt 167).1.cls ∈ lw_g := w_84
theorem cm_167 : Cond.instanceMethod (mt 167).1 ∈ lw_g := w_1350
theorem cs_167 : Cond.selects (mt 167).1.cls (mt 167).1 (mt 167).1 ∈ lw_g := w_1351
theorem cd_167 : (mt 167).1.cls ≠ "java/lang/invoke/MethodHandle" ∧ (mt 167).1.cls ≠ "java/lang/invoke/VarHandle" ∧ (parseMethodDescriptor (mt 167).1.desc).map (fun d => d.parameters.length) = some 4 := ⟨by decide +kernel, by decide +kernel, by decide +kernel⟩
theorem cl_167 : (mt 167).2.2.1 ≤ 45 := by decide
theorem cz_168 : (mt 168).2.2.2.2 = [] := rfl
theorem cc_168 : Cond.code (mt 168).1 (mt 168).2.1 (mt 168).2.2.1 (mt 168).2.2.2.1 ∈ lw_g := mG 1365 (by decide +kernel) rfl
theorem ci_168 : Cond.initialized (mt 168).1.cls ∈ lw_g := w_84
theorem cm_168 : Cond.instanceMethod (mt 168).1 ∈ lw_g := w_1363
theorem cs_168 : Cond.selects (mt 168).1.cls (mt 168).1 (mt 168).1 ∈ lw_g := w_1364
theorem cd_168 : (mt 168).1.cls ≠ "java/lang/invoke/MethodHandle" ∧ (mt 168).1.cls ≠ "java/lang/invoke/VarHandle" ∧ (parseMethodDescriptor (mt 168).1.desc).map (fun d => d.parameters.length) = some 2 := ⟨by decide +kernel, by decide +kernel, by decide +kernel⟩
theorem cl_168 : (mt 168).2.2.1 ≤ 45 := by decide
theorem cz_170 : (mt 170).2.2.2.2 = [] := rfl
theorem cc_170 : Cond.code (mt 170).1 (mt 170).2.1 (mt 170).2.2.1 (mt 170).2.2.2.1 ∈ lw_g := mG 695 (by decide +kernel) rfl
theorem ci_170 : Cond.initialized (mt 170).1.cls ∈ lw_g := w_84
theorem cm_170 : Cond.instanceMethod (mt 170).1 ∈ lw_g := w_693
theorem cs_170 : Cond.selects (mt 170).1.cls (mt 170).1 (mt 170).1 ∈ lw_g := w_694
theorem cd_170 : (mt 170).1.cls ≠ "java/lang/invoke/MethodHandle" ∧ (mt 170).1.cls ≠ "java/lang/invoke/VarHandle" ∧ (parseMethodDescriptor (mt 170).1.desc).map (fun d => d.parameters.length) = some 2 := ⟨by decide +kernel, by decide +kernel, by decide +kernel⟩
theorem cl_170 : (mt 170).2.2.1 ≤ 45 := by decide
theorem cz_171 : (mt 171).2.2.2.2 = [] := rfl
theorem cc_171 : Cond.code (mt 171).1 (mt 171).2.1 (mt 171).2.2.1 (mt 171).2.2.2.1 ∈ lw_g := mG 1395 (by decide +kernel) rfl
theorem ci_171 : Cond.initialized (mt 171).1.cls ∈ lw_g := w_84
theorem cm_171 : Cond.instanceMethod (mt 171).1 ∈ lw_g := w_1393
theorem cs_171 : Cond.selects (mt 171).1.cls (mt 171).1 (mt 171).1 ∈ lw_g := w_1394
theorem cd_171 : (mt 171).1.cls ≠ "java/lang/invoke/MethodHandle" ∧ (mt 171).1.cls ≠ "java/lang/invoke/VarHandle" ∧ (parseMethodDescriptor (mt 171).1.desc).map (fun d => d.parameters.length) = some 2 := ⟨by decide +kernel, by decide +kernel, by decide +kernel⟩
theorem cl_171 : (mt 171).2.2.1 ≤ 45 := by decide
theorem cz_172 : (mt 172).2.2.2.2 = [] := rfl
theorem cc_172 : Cond.code (mt 172).1 (mt 172).2.1 (mt 172).2.2.1 (mt 172).2.2.2.1 ∈ lw_g := mG 1403 (by decide +kernel) rfl
theorem ci_172 : Cond.initialized (mt 172).1.cls ∈ lw_g := w_84
theorem cm_172 : Cond.instanceMethod (mt 172).1 ∈ lw_g := w_1401
theorem cs_172 : Cond.selects (mt 172).1.cls (mt 172).1 (mt 172).1 ∈ lw_g := w_1402
theorem cd_172 : (mt 172).1.cls ≠ "java/lang/invoke/MethodHandle" ∧ (mt 172).1.cls ≠ "java/lang/invoke/VarHandle" ∧ (parseMethodDescriptor (mt 172).1.desc).map (fun d => d.parameters.length) = some 2 := ⟨by decide +kernel, by decide +kernel, by decide +kernel⟩
theorem cl_172 : (mt 172).2.2.1 ≤ 45 := by decide
theorem cz_173 : (mt 173).2.2.2.2 = [] := rfl
theorem cc_173 : Cond.code (mt 173).1 (mt 173).2.1 (mt 173).2.2.1 (mt 173).2.2.2.1 ∈ lw_g := mG 741 (by decide +kernel) rfl
theorem ci_173 : Cond.initialized (mt 173).1.cls ∈ lw_g := w_84
theorem cm_173 : Cond.instanceMethod (mt 173).1 ∈ lw_g := w_739
theorem cs_173 : Cond.selects (mt 173).1.cls (mt 173).1 (mt 173).1 ∈ lw_g := w_740
theorem cd_173 : (mt 173).1.cls ≠ "java/lang/invoke/MethodHandle" ∧ (mt 173).1.cls ≠ "java/lang/invoke/VarHandle" ∧ (parseMethodDescriptor (mt 173).1.desc).map (fun d => d.parameters.length) = some 2 := ⟨by decide +kernel, by decide +kernel, by decide +kernel⟩
theorem cl_173 : (mt 173).2.2.1 ≤ 45 := by decide
theorem cz_174 : (mt 174).2.2.2.2 = [] := rfl
theorem cc_174 : Cond.code (mt 174).1 (mt 174).2.1 (mt 174).2.2.1 (mt 174).2.2.2.1 ∈ lw_g := mG 778 (by decide +kernel) rfl
theorem ci_174 : Cond.initialized (mt 174).1.cls ∈ lw_g := w_84
theorem cm_174 : Cond.instanceMethod (mt 174).1 ∈ lw_g := w_776
theorem cs_174 : Cond.selects (mt 174).1.cls (mt 174).1 (mt 174).1 ∈ lw_g := w_777
theorem cd_174 : (mt 174).1.cls ≠ "java/lang/invoke/MethodHandle" ∧ (mt 174).1.cls ≠ "java/lang/invoke/VarHandle" ∧ (parseMethodDescriptor (mt 174).1.desc).map (fun d => d.parameters.length) = some 2 := ⟨by decide +kernel, by decide +kernel, by decide +kernel⟩
theorem cl_174 : (mt 174).2.2.1 ≤ 45 := by decide
theorem cz_175 : (mt 175).2.2.2.2 = [] := rfl
theorem cc_175 : Cond.code (mt 175).1 (mt 175).2.1 (mt 175).2.2.1 (mt 175).2.2.2.1 ∈ lw_g := mG 814 (by decide +kernel) rfl
theorem ci_175 : Cond.initialized (mt 175).1.cls ∈ lw_g := w_84
theorem cm_175 : Cond.instanceMethod (mt 175).1 ∈ lw_g := w_812
theorem cs_175 : Cond.selects (mt 175).1.cls (mt 175).1 (mt 175).1 ∈ lw_g := w_813
theorem cd_175 : (mt 175).1.cls ≠ "java/lang/invoke/MethodHandle" ∧ (mt 175).1.cls ≠ "java/lang/invoke/VarHandle" ∧ (parseMethodDescriptor (mt 175).1.desc).map (fun d => d.parameters.length) = some 2 := ⟨by decide +kernel, by decide +kernel, by decide +kernel⟩
theorem cl_175 : (mt 175).2.2.1 ≤ 45 := by decide
theorem cz_176 : (mt 176).2.2.2.2 = [] := rfl
theorem cc_176 : Cond.code (mt 176).1 (mt 176).2.1 (mt 176).2.2.1 (mt 176).2.2.2.1 ∈ lw_g := mG 824 (by decide +kernel) rfl
theorem ci_176 : Cond.initialized (mt 176).1.cls ∈ lw_g := w_84
theorem cm_176 : Cond.instanceMethod (mt 176).1 ∈ lw_g := w_822
theorem cs_176 : Cond.selects (mt 176).1.cls (mt 176).1 (mt 176).1 ∈ lw_g := w_823
theorem cd_176 : (mt 176).1.cls ≠ "java/lang/invoke/MethodHandle" ∧ (mt 176).1.cls ≠ "java/lang/invoke/VarHandle" ∧ (parseMethodDescriptor (mt 176).1.desc).map (fun d => d.parameters.length) = some 1 := ⟨by decide +kernel, by decide +kernel, by decide +kernel⟩
theorem cl_176 : (mt 176).2.2.1 ≤ 45 := by decide
theorem cz_177 : (mt 177).2.2.2.2 = [] := rfl
theorem cc_177 : Cond.code (mt 177).1 (mt 177).2.1 (mt 177).2.2.1 (mt 177).2.2.2.1 ∈ lw_g := mG 1446 (by decide +kernel) rfl
theorem ci_177 : Cond.initialized (mt 177).1.cls ∈ lw_g := w_84
theorem cm_177 : Cond.instanceMethod (mt 177).1 ∈ lw_g := w_1444
theorem cs_177 : Cond.selects (mt 177).1.cls (mt 177).1 (mt 177).1 ∈ lw_g := w_1445
theorem cd_177 : (mt 177).1.cls ≠ "java/lang/invoke/MethodHandle" ∧ (mt 177).1.cls ≠ "java/lang/invoke/VarHandle" ∧ (parseMethodDescriptor (mt 177).1.desc).map (fun d => d.parameters.length) = some 1 := ⟨by decide +kernel, by decide +kernel, by decide +kernel⟩
theorem cl_177 : (mt 177).2.2.1 ≤ 45 := by decide
theorem cz_178 : (mt 178).2.2.2.2 = [] := rfl
theorem cc_178 : Cond.code (mt 178).1 (mt 178).2.1 (mt 178).2.2.1 (mt 178).2.2.2.1 ∈ lw_g := mG 1469 (by decide +kernel) rfl
theorem ci_178 : Cond.initialized (mt 178).1.cls ∈ lw_g := w_84
theorem cm_178 : Cond.instanceMethod (mt 178).1 ∈ lw_g := w_1467
theorem cs_178 : Cond.selects (mt 178).1.cls (mt 178).1 (mt 178).1 ∈ lw_g := w_1468
theorem cd_178 : (mt 178).1.cls ≠ "java/lang/invoke/MethodHandle" ∧ (mt 178).1.cls ≠ "java/lang/invoke/VarHandle" ∧ (parseMethodDescriptor (mt 178).1.desc).map (fun d => d.parameters.length) = some 2 := ⟨by decide +kernel, by decide +kernel, by decide +kernel⟩
theorem cl_178 : (mt 178).2.2.1 ≤ 45 := by decide
theorem cz_179 : (mt 179).2.2.2.2 = [] := rfl
theorem cc_179 : Cond.code (mt 179).1 (mt 179).2.1 (mt 179).2.2.1 (mt 179).2.2.2.1 ∈ lw_g := mG 1498 (by decide +kernel) rfl
theorem ci_179 : Cond.initialized (mt 179).1.cls ∈ lw_g := w_84
theorem cm_179 : Cond.instanceMethod (mt 179).1 ∈ lw_g := w_1496
theorem cs_179 : Cond.selects (mt 179).1.cls (mt 179).1 (mt 179).1 ∈ lw_g := w_1497
theorem cd_179 : (mt 179).1.cls ≠ "java/lang/invoke/MethodHandle" ∧ (mt 179).1.cls ≠ "java/lang/invoke/VarHandle" ∧ (parseMethodDescriptor (mt 179).1.desc).map (fun d => d.parameters.length) = some 1 := ⟨by decide +kernel, by decide +kernel, by decide +kernel⟩
theorem cl_179 : (mt 179).2.2.1 ≤ 45 := by decide
theorem cz_180 : (mt 180).2.2.2.2 = [] := rfl
theorem cc_180 : Cond.code (mt 180).1 (mt 180).2.1 (mt 180).2.2.1 (mt 180).2.2.2.1 ∈ lw_g := mG 1518 (by decide +kernel) rfl
theorem ci_180 : Cond.initialized (mt 180).1.cls ∈ lw_g := w_84
theorem cm_180 : Cond.instanceMethod (mt 180).1 ∈ lw_g := w_1516
theorem cs_180 : Cond.selects (mt 180).1.cls (mt 180).1 (mt 180).1 ∈ lw_g := w_1517
theorem cd_180 : (mt 180).1.cls ≠ "java/lang/invoke/MethodHandle" ∧ (mt 180).1.cls ≠ "java/lang/invoke/VarHandle" ∧ (parseMethodDescriptor (mt 180).1.desc).map (fun d => d.parameters.length) = some 2 := ⟨by decide +kernel, by decide +kernel, by decide +kernel⟩
theorem cl_180 : (mt 180).2.2.1 ≤ 45 := by decide
theorem cz_181 : (mt 181).2.2.2.2 = [] := rfl
theorem cc_181 : Cond.code (mt 181).1 (mt 181).2.1 (mt 181).2.2.1 (mt 181).2.2.2.1 ∈ lw_g := mG 894 (by decide +kernel) rfl
theorem ci_181 : Cond.initialized (mt 181).1.cls ∈ lw_g := w_84
theorem cm_181 : Cond.instanceMethod (mt 181).1 ∈ lw_g := w_892
theorem cs_181 : Cond.selects (mt 181).1.cls (mt 181).1 (mt 181).1 ∈ lw_g := w_893
theorem cd_181 : (mt 181).1.cls ≠ "java/lang/invoke/MethodHandle" ∧ (mt 181).1.cls ≠ "java/lang/invoke/VarHandle" ∧ (parseMethodDescriptor (mt 181).1.desc).map (fun d => d.parameters.length) = some 3 := ⟨by decide +kernel, by decide +kernel, by decide +kernel⟩
theorem cl_181 : (mt 181).2.2.1 ≤ 45 := by decide
theorem cz_182 : (mt 182).2.2.2.2 = [] := rfl
theorem cc_182 : Cond.code (mt 182).1 (mt 182).2.1 (mt 182).2.2.1 (mt 182).2.2.2.1 ∈ lw_g := mG 837 (by decide +kernel) rfl
theorem ci_182 : Cond.initialized (mt 182).1.cls ∈ lw_g := w_84
theorem cm_182 : Cond.instanceMethod (mt 182).1 ∈ lw_g := w_835
theorem cs_182 : Cond.selects (mt 182).1.cls (mt 182).1 (mt 182).1 ∈ lw_g := w_836
theorem cd_182 : (mt 182).1.cls ≠ "java/lang/invoke/MethodHandle" ∧ (mt 182).1.cls ≠ "java/lang/invoke/VarHandle" ∧ (parseMethodDescriptor (mt 182).1.desc).map (fun d => d.parameters.length) = some 2 := ⟨by decide +kernel, by decide +kernel, by decide +kernel⟩
theorem cl_182 : (mt 182).2.2.1 ≤ 45 := by decide
theorem cz_183 : (mt 183).2.2.2.2 = [] := rfl
theorem cc_183 : Cond.code (mt 183).1 (mt 183).2.1 (mt 183).2.2.1 (mt 183).2.2.2.1 ∈ lw_g := mG 529 (by decide +kernel) rfl
theorem ci_183 : Cond.initialized (mt 183).1.cls ∈ lw_g := w_84
theorem cm_183 : Cond.instanceMethod (mt 183).1 ∈ lw_g := w_527
theorem cs_183 : Cond.selects (mt 183).1.cls (mt 183).1 (mt 183).1 ∈ lw_g := w_528
theorem cd_183 : (mt 183).1.cls ≠ "java/lang/invoke/MethodHandle" ∧ (mt 183).1.cls ≠ "java/lang/invoke/VarHandle" ∧ (parseMethodDescriptor (mt 183).1.desc).map (fun d => d.parameters.length) = some 1 := ⟨by decide +kernel, by decide +kernel, by decide +kernel⟩
theorem cl_183 : (mt 183).2.2.1 ≤ 45 := by decide
theorem cz_185 : (mt 185).2.2.2.2 = [] := rfl
theorem cc_185 : Cond.code (mt 185).1 (mt 185).2.1 (mt 185).2.2.1 (mt 185).2.2.2.1 ∈ lw_g := mG 936 (by decide +kernel) rfl
theorem ci_185 : Cond.initialized (mt 185).1.cls ∈ lw_g := w_84
theorem cm_185 : Cond.instanceMethod (mt 185).1 ∈ lw_g := w_934
theorem cs_185 : Cond.selects (mt 185).1.cls (mt 185).1 (mt 185).1 ∈ lw_g := w_935
theorem cd_185 : (mt 185).1.cls ≠ "java/lang/invoke/MethodHandle" ∧ (mt 185).1.cls ≠ "java/lang/invoke/VarHandle" ∧ (parseMethodDescriptor (mt 185).1.desc).map (fun d => d.parameters.length) = some 1 := ⟨by decide +kernel, by decide +kernel, by decide +kernel⟩
theorem cl_185 : (mt 185).2.2.1 ≤ 45 := by decide
theorem cz_186 : (mt 186).2.2.2.2 = [] := rfl
theorem cc_186 : Cond.code (mt 186).1 (mt 186).2.1 (mt 186).2.2.1 (mt 186).2.2.2.1 ∈ lw_g := mG 1246 (by decide +kernel) rfl
theorem ci_186 : Cond.initialized (mt 186).1.cls ∈ lw_g := w_84
theorem cm_186 : Cond.instanceMethod (mt 186).1 ∈ lw_g := w_1244
theorem cs_186 : Cond.selects (mt 186).1.cls (mt 186).1 (mt 186).1 ∈ lw_g := w_1245
theorem cd_186 : (mt 186).1.cls ≠ "java/lang/invoke/MethodHandle" ∧ (mt 186).1.cls ≠ "java/lang/invoke/VarHandle" ∧ (parseMethodDescriptor (mt 186).1.desc).map (fun d => d.parameters.length) = some 1 := ⟨by decide +kernel, by decide +kernel, by decide +kernel⟩
theorem cl_186 : (mt 186).2.2.1 ≤ 45 := by decide
theorem cz_187 : (mt 187).2.2.2.2 = [] := rfl
theorem cc_187 : Cond.code (mt 187).1 (mt 187).2.1 (mt 187).2.2.1 (mt 187).2.2.2.1 ∈ lw_g := mG 876 (by decide +kernel) rfl
theorem ci_187 : Cond.initialized (mt 187).1.cls ∈ lw_g := w_84
theorem cm_187 : Cond.instanceMethod (mt 187).1 ∈ lw_g := w_874
theorem cs_187 : Cond.selects (mt 187).1.cls (mt 187).1 (mt 187).1 ∈ lw_g := w_875
theorem cd_187 : (mt 187).1.cls ≠ "java/lang/invoke/MethodHandle" ∧ (mt 187).1.cls ≠ "java/lang/invoke/VarHandle" ∧ (parseMethodDescriptor (mt 187).1.desc).map (fun d => d.parameters.length) = some 1 := ⟨by decide +kernel, by decide +kernel, by decide +kernel⟩
theorem cl_187 : (mt 187).2.2.1 ≤ 45 := by decide
theorem cz_188 : (mt 188).2.2.2.2 = [] := rfl
theorem cc_188 : Cond.code (mt 188).1 (mt 188).2.1 (mt 188).2.2.1 (mt 188).2.2.2.1 ∈ lw_g := mG 923 (by decide +kernel) rfl
theorem ci_188 : Cond.initialized (mt 188).1.cls ∈ lw_g := w_84
theorem cm_188 : Cond.instanceMethod (mt 188).1 ∈ lw_g := w_921
theorem cs_188 : Cond.selects (mt 188).1.cls (mt 188).1 (mt 188).1 ∈ lw_g := w_922
theorem cd_188 : (mt 188).1.cls ≠ "java/lang/invoke/MethodHandle" ∧ (mt 188).1.cls ≠ "java/lang/invoke/VarHandle" ∧ (parseMethodDescriptor (mt 188).1.desc).map (fun d => d.parameters.length) = some 2 := ⟨by decide +kernel, by decide +kernel, by decide +kernel⟩
theorem cl_188 : (mt 188).2.2.1 ≤ 45 := by decide
theorem cz_190 : (mt 190).2.2.2.2 = [] := rfl
theorem cc_190 : Cond.code (mt 190).1 (mt 190).2.1 (mt 190).2.2.1 (mt 190).2.2.2.1 ∈ lw_g := mG 691 (by decide +kernel) rfl
theorem ci_190 : Cond.initialized (mt 190).1.cls ∈ lw_g := w_84
theorem cm_190 : Cond.instanceMethod (mt 190).1 ∈ lw_g := w_690
theorem cs_190 : Cond.selects (mt 190).1.cls (mt 190).1 (mt 190).1 ∈ lw_g := w_3
theorem cd_190 : (mt 190).1.cls ≠ "java/lang/invoke/MethodHandle" ∧ (mt 190).1.cls ≠ "java/lang/invoke/VarHandle" ∧ (parseMethodDescriptor (mt 190).1.desc).map (fun d => d.parameters.length) = some 1 := ⟨by decide +kernel, by decide +kernel, by decide +kernel⟩
theorem cl_190 : (mt 190).2.2.1 ≤ 45 := by decide
theorem cz_191 : (mt 191).2.2.2.2 = [] := rfl
theorem cc_191 : Cond.code (mt 191).1 (mt 191).2.1 (mt 191).2.2.1 (mt 191).2.2.2.1 ∈ lw_g := mG 737 (by decide +kernel) rfl
theorem ci_191 : Cond.initialized (mt 191).1.cls ∈ lw_g := w_84
theorem cm_191 : Cond.instanceMethod (mt 191).1 ∈ lw_g := w_736
theorem cs_191 : Cond.selects (mt 191).1.cls (mt 191).1 (mt 191).1 ∈ lw_g := w_4
theorem cd_191 : (mt 191).1.cls ≠ "java/lang/invoke/MethodHandle" ∧ (mt 191).1.cls ≠ "java/lang/invoke/VarHandle" ∧ (parseMethodDescriptor (mt 191).1.desc).map (fun d => d.parameters.length) = some 1 := ⟨by decide +kernel, by decide +kernel, by decide +kernel⟩
theorem cl_191 : (mt 191).2.2.1 ≤ 45 := by decide
theorem cz_192 : (mt 192).2.2.2.2 = [] := rfl
theorem cc_192 : Cond.code (mt 192).1 (mt 192).2.1 (mt 192).2.2.1 (mt 192).2.2.2.1 ∈ lw_g := mG 774 (by decide +kernel) rfl
theorem ci_192 : Cond.initialized (mt 192).1.cls ∈ lw_g := w_84
theorem cm_192 : Cond.instanceMethod (mt 192).1 ∈ lw_g := w_773
theorem cs_192 : Cond.selects (mt 192).1.cls (mt 192).1 (mt 192).1 ∈ lw_g := w_5
theorem cd_192 : (mt 192).1.cls ≠ "java/lang/invoke/MethodHandle" ∧ (mt 192).1.cls ≠ "java/lang/invoke/VarHandle" ∧ (parseMethodDescriptor (mt 192).1.desc).map (fun d => d.parameters.length) = some 1 := ⟨by decide +kernel, by decide +kernel, by decide +kernel⟩
theorem cl_192 : (mt 192).2.2.1 ≤ 45 := by decide
theorem cz_193 : (mt 193).2.2.2.2 = [] := rfl
theorem cc_193 : Cond.code (mt 193).1 (mt 193).2.1 (mt 193).2.2.1 (mt 193).2.2.2.1 ∈ lw_g := mG 810 (by decide +kernel) rfl
theorem ci_193 : Cond.initialized (mt 193).1.cls ∈ lw_g := w_84
theorem cm_193 : Cond.instanceMethod (mt 193).1 ∈ lw_g := w_809
theorem cs_193 : Cond.selects (mt 193).1.cls (mt 193).1 (mt 193).1 ∈ lw_g := w_6
theorem cd_193 : (mt 193).1.cls ≠ "java/lang/invoke/MethodHandle" ∧ (mt 193).1.cls ≠ "java/lang/invoke/VarHandle" ∧ (parseMethodDescriptor (mt 193).1.desc).map (fun d => d.parameters.length) = some 1 := ⟨by decide +kernel, by decide +kernel, by decide +kernel⟩
theorem cl_193 : (mt 193).2.2.1 ≤ 45 := by decide
theorem cz_194 : (mt 194).2.2.2.2 = [] := rfl
theorem cc_194 : Cond.code (mt 194).1 (mt 194).2.1 (mt 194).2.2.1 (mt 194).2.2.2.1 ∈ lw_g := mG 833 (by decide +kernel) rfl
theorem ci_194 : Cond.initialized (mt 194).1.cls ∈ lw_g := w_84
theorem cm_194 : Cond.instanceMethod (mt 194).1 ∈ lw_g := w_832
theorem cs_194 : Cond.selects (mt 194).1.cls (mt 194).1 (mt 194).1 ∈ lw_g := w_7
theorem cd_194 : (mt 194).1.cls ≠ "java/lang/invoke/MethodHandle" ∧ (mt 194).1.cls ≠ "java/lang/invoke/VarHandle" ∧ (parseMethodDescriptor (mt 194).1.desc).map (fun d => d.parameters.length) = some 2 := ⟨by decide +kernel, by decide +kernel, by decide +kernel⟩
theorem cl_194 : (mt 194).2.2.1 ≤ 45 := by decide
theorem cz_195 : (mt 195).2.2.2.2 = [] := rfl
theorem cc_195 : Cond.code (mt 195).1 (mt 195).2.1 (mt 195).2.2.1 (mt 195).2.2.2.1 ∈ lw_g := mG 686 (by decide +kernel) rfl
theorem ci_195 : Cond.initialized (mt 195).1.cls ∈ lw_g := w_84
theorem cm_195 : Cond.static (mt 195).1 ∈ lw_g := w_685
theorem cd_195 : (mt 195).1.cls ≠ "java/lang/invoke/MethodHandle" ∧ (mt 195).1.cls ≠ "java/lang/invoke/VarHandle" ∧ (parseMethodDescriptor (mt 195).1.desc).map (fun d => d.parameters.length) = some 2 := ⟨by decide +kernel, by decide +kernel, by decide +kernel⟩
theorem cl_195 : (mt 195).2.2.1 ≤ 45 := by decide
theorem cz_196 : (mt 196).2.2.2.2 = [] := rfl
theorem cc_196 : Cond.code (mt 196).1 (mt 196).2.1 (mt 196).2.2.1 (mt 196).2.2.2.1 ∈ lw_g := mG 606 (by decide +kernel) rfl
theorem ci_196 : Cond.initialized (mt 196).1.cls ∈ lw_g := w_84
theorem cm_196 : Cond.static (mt 196).1 ∈ lw_g := w_605
theorem cd_196 : (mt 196).1.cls ≠ "java/lang/invoke/MethodHandle" ∧ (mt 196).1.cls ≠ "java/lang/invoke/VarHandle" ∧ (parseMethodDescriptor (mt 196).1.desc).map (fun d => d.parameters.length) = some 2 := ⟨by decide +kernel, by decide +kernel, by decide +kernel⟩
theorem cl_196 : (mt 196).2.2.1 ≤ 45 := by decide
theorem cz_197 : (mt 197).2.2.2.2 = [] := rfl
theorem cc_197 : Cond.code (mt 197).1 (mt 197).2.1 (mt 197).2.2.1 (mt 197).2.2.2.1 ∈ lw_g := mG 781 (by decide +kernel) rfl
theorem ci_197 : Cond.initialized (mt 197).1.cls ∈ lw_g := w_84
theorem cm_197 : Cond.static (mt 197).1 ∈ lw_g := w_780
theorem cd_197 : (mt 197).1.cls ≠ "java/lang/invoke/MethodHandle" ∧ (mt 197).1.cls ≠ "java/lang/invoke/VarHandle" ∧ (parseMethodDescriptor (mt 197).1.desc).map (fun d => d.parameters.length) = some 1 := ⟨by decide +kernel, by decide +kernel, by decide +kernel⟩
theorem cl_197 : (mt 197).2.2.1 ≤ 45 := by decide
theorem cz_198 : (mt 198).2.2.2.2 = [] := rfl
theorem cc_198 : Cond.code (mt 198).1 (mt 198).2.1 (mt 198).2.2.1 (mt 198).2.2.2.1 ∈ lw_g := mG 1275 (by decide +kernel) rfl
theorem ci_198 : Cond.initialized (mt 198).1.cls ∈ lw_g := w_84
theorem cm_198 : Cond.static (mt 198).1 ∈ lw_g := w_1274
theorem cd_198 : (mt 198).1.cls ≠ "java/lang/invoke/MethodHandle" ∧ (mt 198).1.cls ≠ "java/lang/invoke/VarHandle" ∧ (parseMethodDescriptor (mt 198).1.desc).map (fun d => d.parameters.length) = some 1 := ⟨by decide +kernel, by decide +kernel, by decide +kernel⟩
theorem cl_198 : (mt 198).2.2.1 ≤ 45 := by decide
theorem cz_199 : (mt 199).2.2.2.2 = [] := rfl
theorem cc_199 : Cond.code (mt 199).1 (mt 199).2.1 (mt 199).2.2.1 (mt 199).2.2.2.1 ∈ lw_g := mG 939 (by decide +kernel) rfl
theorem ci_199 : Cond.initialized (mt 199).1.cls ∈ lw_g := w_84
theorem cm_199 : Cond.static (mt 199).1 ∈ lw_g := w_938
theorem cd_199 : (mt 199).1.cls ≠ "java/lang/invoke/MethodHandle" ∧ (mt 199).1.cls ≠ "java/lang/invoke/VarHandle" ∧ (parseMethodDescriptor (mt 199).1.desc).map (fun d => d.parameters.length) = some 1 := ⟨by decide +kernel, by decide +kernel, by decide +kernel⟩
theorem cl_199 : (mt 199).2.2.1 ≤ 45 := by decide
theorem cz_200 : (mt 200).2.2.2.2 = [] := rfl
theorem cc_200 : Cond.code (mt 200).1 (mt 200).2.1 (mt 200).2.2.1 (mt 200).2.2.2.1 ∈ lw_g := mG 609 (by decide +kernel) rfl
theorem ci_200 : Cond.initialized (mt 200).1.cls ∈ lw_g := w_84
theorem cm_200 : Cond.static (mt 200).1 ∈ lw_g := w_608
theorem cd_200 : (mt 200).1.cls ≠ "java/lang/invoke/MethodHandle" ∧ (mt 200).1.cls ≠ "java/lang/invoke/VarHandle" ∧ (parseMethodDescriptor (mt 200).1.desc).map (fun d => d.parameters.length) = some 2 := ⟨by decide +kernel, by decide +kernel, by decide +kernel⟩
theorem cl_200 : (mt 200).2.2.1 ≤ 45 := by decide
theorem cz_201 : (mt 201).2.2.2.2 = [] := rfl
theorem cc_201 : Cond.code (mt 201).1 (mt 201).2.1 (mt 201).2.2.1 (mt 201).2.2.2.1 ∈ lw_g := mG 1149 (by decide +kernel) rfl
theorem ci_201 : Cond.initialized (mt 201).1.cls ∈ lw_g := w_84
theorem cm_201 : Cond.static (mt 201).1 ∈ lw_g := w_1148
theorem cd_201 : (mt 201).1.cls ≠ "java/lang/invoke/MethodHandle" ∧ (mt 201).1.cls ≠ "java/lang/invoke/VarHandle" ∧ (parseMethodDescriptor (mt 201).1.desc).map (fun d => d.parameters.length) = some 2 := ⟨by decide +kernel, by decide +kernel, by decide +kernel⟩
theorem cl_201 : (mt 201).2.2.1 ≤ 45 := by decide
theorem cz_202 : (mt 202).2.2.2.2 = [] := rfl
theorem cc_202 : Cond.code (mt 202).1 (mt 202).2.1 (mt 202).2.2.1 (mt 202).2.2.2.1 ∈ lw_g := mG 1317 (by decide +kernel) rfl
theorem ci_202 : Cond.initialized (mt 202).1.cls ∈ lw_g := w_84
theorem cm_202 : Cond.instanceMethod (mt 202).1 ∈ lw_g := w_1316
theorem cs_202 : Cond.selects (mt 202).1.cls (mt 202).1 (mt 202).1 ∈ lw_g := w_31
theorem cd_202 : (mt 202).1.cls ≠ "java/lang/invoke/MethodHandle" ∧ (mt 202).1.cls ≠ "java/lang/invoke/VarHandle" ∧ (parseMethodDescriptor (mt 202).1.desc).map (fun d => d.parameters.length) = some 5 := ⟨by decide +kernel, by decide +kernel, by decide +kernel⟩
theorem cl_202 : (mt 202).2.2.1 ≤ 45 := by decide
theorem cz_203 : (mt 203).2.2.2.2 = [] := rfl
theorem cc_203 : Cond.code (mt 203).1 (mt 203).2.1 (mt 203).2.2.1 (mt 203).2.2.2.1 ∈ lw_g := mG 1768 (by decide +kernel) rfl
theorem ci_203 : Cond.initialized (mt 203).1.cls ∈ lw_g := w_105
theorem cm_203 : Cond.instanceMethod (mt 203).1 ∈ lw_g := w_1767
theorem cd_203 : (mt 203).1.cls ≠ "java/lang/invoke/MethodHandle" ∧ (mt 203).1.cls ≠ "java/lang/invoke/VarHandle" ∧ (parseMethodDescriptor (mt 203).1.desc).map (fun d => d.parameters.length) = some 6 := ⟨by decide +kernel, by decide +kernel, by decide +kernel⟩
theorem cl_203 : (mt 203).2.2.1 ≤ 45 := by decide
theorem cz_204 : (mt 204).2.2.2.2 = [] := rfl
theorem cc_204 : Cond.code (mt 204).1 (mt 204).2.1 (mt 204).2.2.1 (mt 204).2.2.2.1 ∈ lw_g := mG 1773 (by decide +kernel) rfl
theorem ci_204 : Cond.initialized (mt 204).1.cls ∈ lw_g := w_105
theorem cm_204 : Cond.instanceMethod (mt 204).1 ∈ lw_g := w_1772
theorem cs_204 : Cond.selects (mt 204).1.cls (mt 204).1 (mt 204).1 ∈ lw_g := w_46
theorem cd_204 : (mt 204).1.cls ≠ "java/lang/invoke/MethodHandle" ∧ (mt 204).1.cls ≠ "java/lang/invoke/VarHandle" ∧ (parseMethodDescriptor (mt 204).1.desc).map (fun d => d.parameters.length) = some 1 := ⟨by decide +kernel, by decide +kernel, by decide +kernel⟩
theorem cl_204 : (mt 204).2.2.1 ≤ 45 := by decide
theorem cz_205 : (mt 205).2.2.2.2 = [] := rfl
theorem cc_205 : Cond.code (mt 205).1 (mt 205).2.1 (mt 205).2.2.1 (mt 205).2.2.2.1 ∈ lw_g := mG 1777 (by decide +kernel) rfl
theorem ci_205 : Cond.initialized (mt 205).1.cls ∈ lw_g := w_105
theorem cm_205 : Cond.instanceMethod (mt 205).1 ∈ lw_g := w_1776
theorem cs_205 : Cond.selects (mt 205).1.cls (mt 205).1 (mt 205).1 ∈ lw_g := w_47
theorem cd_205 : (mt 205).1.cls ≠ "java/lang/invoke/MethodHandle" ∧ (mt 205).1.cls ≠ "java/lang/invoke/VarHandle" ∧ (parseMethodDescriptor (mt 205).1.desc).map (fun d => d.parameters.length) = some 3 := ⟨by decide +kernel, by decide +kernel, by decide +kernel⟩
theorem cl_205 : (mt 205).2.2.1 ≤ 45 := by decide
theorem cz_206 : (mt 206).2.2.2.2 = [] := rfl
theorem cc_206 : Cond.code (mt 206).1 (mt 206).2.1 (mt 206).2.2.1 (mt 206).2.2.2.1 ∈ lw_g := mG 1782 (by decide +kernel) rfl
theorem ci_206 : Cond.initialized (mt 206).1.cls ∈ lw_g := w_105
theorem cm_206 : Cond.instanceMethod (mt 206).1 ∈ lw_g := w_1781
theorem cs_206 : Cond.selects (mt 206).1.cls (mt 206).1 (mt 206).1 ∈ lw_g := w_48
theorem cd_206 : (mt 206).1.cls ≠ "java/lang/invoke/MethodHandle" ∧ (mt 206).1.cls ≠ "java/lang/invoke/VarHandle" ∧ (parseMethodDescriptor (mt 206).1.desc).map (fun d => d.parameters.length) = some 1 := ⟨by decide +kernel, by decide +kernel, by decide +kernel⟩
theorem cl_206 : (mt 206).2.2.1 ≤ 45 := by decide
theorem cz_207 : (mt 207).2.2.2.2 = [] := rfl
theorem cc_207 : Cond.code (mt 207).1 (mt 207).2.1 (mt 207).2.2.1 (mt 207).2.2.2.1 ∈ lw_g := mG 1786 (by decide +kernel) rfl
theorem ci_207 : Cond.initialized (mt 207).1.cls ∈ lw_g := w_105
theorem cm_207 : Cond.instanceMethod (mt 207).1 ∈ lw_g := w_1785
theorem cs_207 : Cond.selects (mt 207).1.cls (mt 207).1 (mt 207).1 ∈ lw_g := w_49
theorem cd_207 : (mt 207).1.cls ≠ "java/lang/invoke/MethodHandle" ∧ (mt 207).1.cls ≠ "java/lang/invoke/VarHandle" ∧ (parseMethodDescriptor (mt 207).1.desc).map (fun d => d.parameters.length) = some 1 := ⟨by decide +kernel, by decide +kernel, by decide +kernel⟩
theorem cl_207 : (mt 207).2.2.1 ≤ 45 := by decide
theorem cz_208 : (mt 208).2.2.2.2 = [] := rfl
theorem cc_208 : Cond.code (mt 208).1 (mt 208).2.1 (mt 208).2.2.1 (mt 208).2.2.2.1 ∈ lw_g := mG 1790 (by decide +kernel) rfl
theorem ci_208 : Cond.initialized (mt 208).1.cls ∈ lw_g := w_105
theorem cm_208 : Cond.instanceMethod (mt 208).1 ∈ lw_g := w_1789
theorem cs_208 : Cond.selects (mt 208).1.cls (mt 208).1 (mt 208).1 ∈ lw_g := w_50
theorem cd_208 : (mt 208).1.cls ≠ "java/lang/invoke/MethodHandle" ∧ (mt 208).1.cls ≠ "java/lang/invoke/VarHandle" ∧ (parseMethodDescriptor (mt 208).1.desc).map (fun d => d.parameters.length) = some 2 := ⟨by decide +kernel, by decide +kernel, by decide +kernel⟩
theorem cl_208 : (mt 208).2.2.1 ≤ 45 := by decide
theorem cz_209 : (mt 209).2.2.2.2 = [] := rfl
theorem cc_209 : Cond.code (mt 209).1 (mt 209).2.1 (mt 209).2.2.1 (mt 209).2.2.2.1 ∈ lw_g := mG 1798 (by decide +kernel) rfl
theorem ci_209 : Cond.initialized (mt 209).1.cls ∈ lw_g := w_105
theorem cm_209 : Cond.instanceMethod (mt 209).1 ∈ lw_g := w_1797
theorem cs_209 : Cond.selects (mt 209).1.cls (mt 209).1 (mt 209).1 ∈ lw_g := w_52
theorem cd_209 : (mt 209).1.cls ≠ "java/lang/invoke/MethodHandle" ∧ (mt 209).1.cls ≠ "java/lang/invoke/VarHandle" ∧ (parseMethodDescriptor (mt 209).1.desc).map (fun d => d.parameters.length) = some 2 := ⟨by decide +kernel, by decide +kernel, by decide +kernel⟩
theorem cl_209 : (mt 209).2.2.1 ≤ 45 := by decide
theorem cz_210 : (mt 210).2.2.2.2 = [] := rfl
theorem cc_210 : Cond.code (mt 210).1 (mt 210).2.1 (mt 210).2.2.1 (mt 210).2.2.2.1 ∈ lw_g := mG 1794 (by decide +kernel) rfl
theorem ci_210 : Cond.initialized (mt 210).1.cls ∈ lw_g := w_105
theorem cm_210 : Cond.instanceMethod (mt 210).1 ∈ lw_g := w_1793
theorem cs_210 : Cond.selects (mt 210).1.cls (mt 210).1 (mt 210).1 ∈ lw_g := w_51
theorem cd_210 : (mt 210).1.cls ≠ "java/lang/invoke/MethodHandle" ∧ (mt 210).1.cls ≠ "java/lang/invoke/VarHandle" ∧ (parseMethodDescriptor (mt 210).1.desc).map (fun d => d.parameters.length) = some 1 := ⟨by decide +kernel, by decide +kernel, by decide +kernel⟩
theorem cl_210 : (mt 210).2.2.1 ≤ 45 := by decide
theorem cz_211 : (mt 211).2.2.2.2 = [] := rfl
theorem cc_211 : Cond.code (mt 211).1 (mt 211).2.1 (mt 211).2.2.1 (mt 211).2.2.2.1 ∈ lw_g := mG 1803 (by decide +kernel) rfl
theorem ci_211 : Cond.initialized (mt 211).1.cls ∈ lw_g := w_105
theorem cm_211 : Cond.instanceMethod (mt 211).1 ∈ lw_g := w_1802
theorem cs_211 : Cond.selects (mt 211).1.cls (mt 211).1 (mt 211).1 ∈ lw_g := w_53
theorem cd_211 : (mt 211).1.cls ≠ "java/lang/invoke/MethodHandle" ∧ (mt 211).1.cls ≠ "java/lang/invoke/VarHandle" ∧ (parseMethodDescriptor (mt 211).1.desc).map (fun d => d.parameters.length) = some 4 := ⟨by decide +kernel, by decide +kernel, by decide +kernel⟩
theorem cl_211 : (mt 211).2.2.1 ≤ 45 := by decide
theorem cz_212 : (mt 212).2.2.2.2 = [] := rfl
theorem cc_212 : Cond.code (mt 212).1 (mt 212).2.1 (mt 212).2.2.1 (mt 212).2.2.2.1 ∈ lw_g := mG 1818 (by decide +kernel) rfl
theorem ci_212 : Cond.initialized (mt 212).1.cls ∈ lw_g := w_105
theorem cm_212 : Cond.instanceMethod (mt 212).1 ∈ lw_g := w_1817
theorem cs_212 : Cond.selects (mt 212).1.cls (mt 212).1 (mt 212).1 ∈ lw_g := w_56
theorem cd_212 : (mt 212).1.cls ≠ "java/lang/invoke/MethodHandle" ∧ (mt 212).1.cls ≠ "java/lang/invoke/VarHandle" ∧ (parseMethodDescriptor (mt 212).1.desc).map (fun d => d.parameters.length) = some 1 := ⟨by decide +kernel, by decide +kernel, by decide +kernel⟩
theorem cl_212 : (mt 212).2.2.1 ≤ 45 := by decide
theorem cz_213 : (mt 213).2.2.2.2 = [] := rfl
theorem cc_213 : Cond.code (mt 213).1 (mt 213).2.1 (mt 213).2.2.1 (mt 213).2.2.2.1 ∈ lw_g := mG 1814 (by decide +kernel) rfl
theorem ci_213 : Cond.initialized (mt 213).1.cls ∈ lw_g := w_105
theorem cm_213 : Cond.instanceMethod (mt 213).1 ∈ lw_g := w_1813
theorem cs_213 : Cond.selects (mt 213).1.cls (mt 213).1 (mt 213).1 ∈ lw_g := w_55
theorem cd_213 : (mt 213).1.cls ≠ "java/lang/invoke/MethodHandle" ∧ (mt 213).1.cls ≠ "java/lang/invoke/VarHandle" ∧ (parseMethodDescriptor (mt 213).1.desc).map (fun d => d.parameters.length) = some 1 := ⟨by decide +kernel, by decide +kernel, by decide +kernel⟩
theorem cl_213 : (mt 213).2.2.1 ≤ 45 := by decide
theorem cz_214 : (mt 214).2.2.2.2 = [] := rfl
theorem cc_214 : Cond.code (mt 214).1 (mt 214).2.1 (mt 214).2.2.1 (mt 214).2.2.2.1 ∈ lw_g := mG 1810 (by decide +kernel) rfl
theorem ci_214 : Cond.initialized (mt 214).1.cls ∈ lw_g := w_105
theorem cm_214 : Cond.instanceMethod (mt 214).1 ∈ lw_g := w_1809
theorem cs_214 : Cond.selects (mt 214).1.cls (mt 214).1 (mt 214).1 ∈ lw_g := w_54
theorem cd_214 : (mt 214).1.cls ≠ "java/lang/invoke/MethodHandle" ∧ (mt 214).1.cls ≠ "java/lang/invoke/VarHandle" ∧ (parseMethodDescriptor (mt 214).1.desc).map (fun d => d.parameters.length) = some 0 := ⟨by decide +kernel, by decide +kernel, by decide +kernel⟩
theorem cl_214 : (mt 214).2.2.1 ≤ 45 := by decide
theorem cz_215 : (mt 215).2.2.2.2 = [] := rfl
theorem cc_215 : Cond.code (mt 215).1 (mt 215).2.1 (mt 215).2.2.1 (mt 215).2.2.2.1 ∈ lw_g := mG 1837 (by decide +kernel) rfl
theorem ci_215 : Cond.initialized (mt 215).1.cls ∈ lw_g := w_105
theorem cm_215 : Cond.instanceMethod (mt 215).1 ∈ lw_g := w_1836
theorem cs_215 : Cond.selects (mt 215).1.cls (mt 215).1 (mt 215).1 ∈ lw_g := w_60
theorem cd_215 : (mt 215).1.cls ≠ "java/lang/invoke/MethodHandle" ∧ (mt 215).1.cls ≠ "java/lang/invoke/VarHandle" ∧ (parseMethodDescriptor (mt 215).1.desc).map (fun d => d.parameters.length) = some 2 := ⟨by decide +kernel, by decide +kernel, by decide +kernel⟩
theorem cl_215 : (mt 215).2.2.1 ≤ 45 := by decide
theorem cz_216 : (mt 216).2.2.2.2 = [] := rfl
theorem cc_216 : Cond.code (mt 216).1 (mt 216).2.1 (mt 216).2.2.1 (mt 216).2.2.2.1 ∈ lw_g := mG 1833 (by decide +kernel) rfl
theorem ci_216 : Cond.initialized (mt 216).1.cls ∈ lw_g := w_105
theorem cm_216 : Cond.instanceMethod (mt 216).1 ∈ lw_g := w_1832
theorem cs_216 : Cond.selects (mt 216).1.cls (mt 216).1 (mt 216).1 ∈ lw_g := w_59
theorem cd_216 : (mt 216).1.cls ≠ "java/lang/invoke/MethodHandle" ∧ (mt 216).1.cls ≠ "java/lang/invoke/VarHandle" ∧ (parseMethodDescriptor (mt 216).1.desc).map (fun d => d.parameters.length) = some 2 := ⟨by decide +kernel, by decide +kernel, by decide +kernel⟩
theorem cl_216 : (mt 216).2.2.1 ≤ 45 := by decide
theorem cz_217 : (mt 217).2.2.2.2 = [] := rfl
theorem cc_217 : Cond.code (mt 217).1 (mt 217).2.1 (mt 217).2.2.1 (mt 217).2.2.2.1 ∈ lw_g := mG 1829 (by decide +kernel) rfl
theorem ci_217 : Cond.initialized (mt 217).1.cls ∈ lw_g := w_105
theorem cm_217 : Cond.static (mt 217).1 ∈ lw_g := w_1828
theorem cd_217 : (mt 217).1.cls ≠ "java/lang/invoke/MethodHandle" ∧ (mt 217).1.cls ≠ "java/lang/invoke/VarHandle" ∧ (parseMethodDescriptor (mt 217).1.desc).map (fun d => d.parameters.length) = some 2 := ⟨by decide +kernel, by decide +kernel, by decide +kernel⟩
theorem cl_217 : (mt 217).2.2.1 ≤ 45 := by decide
theorem cz_218 : (mt 218).2.2.2.2 = [] := rfl
theorem cc_218 : Cond.code (mt 218).1 (mt 218).2.1 (mt 218).2.2.1 (mt 218).2.2.2.1 ∈ lw_g := mG 1826 (by decide +kernel) rfl
theorem ci_218 : Cond.initialized (mt 218).1.cls ∈ lw_g := w_105
theorem cm_218 : Cond.instanceMethod (mt 218).1 ∈ lw_g := w_1825
theorem cs_218 : Cond.selects (mt 218).1.cls (mt 218).1 (mt 218).1 ∈ lw_g := w_58
theorem cd_218 : (mt 218).1.cls ≠ "java/lang/invoke/MethodHandle" ∧ (mt 218).1.cls ≠ "java/lang/invoke/VarHandle" ∧ (parseMethodDescriptor (mt 218).1.desc).map (fun d => d.parameters.length) = some 0 := ⟨by decide +kernel, by decide +kernel, by decide +kernel⟩
theorem cl_218 : (mt 218).2.2.1 ≤ 45 := by decide
theorem cz_219 : (mt 219).2.2.2.2 = [] := rfl
theorem cc_219 : Cond.code (mt 219).1 (mt 219).2.1 (mt 219).2.2.1 (mt 219).2.2.2.1 ∈ lw_g := mG 1841 (by decide +kernel) rfl
theorem ci_219 : Cond.initialized (mt 219).1.cls ∈ lw_g := w_105
theorem cm_219 : Cond.instanceMethod (mt 219).1 ∈ lw_g := w_1840
theorem cs_219 : Cond.selects (mt 219).1.cls (mt 219).1 (mt 219).1 ∈ lw_g := w_61
theorem cd_219 : (mt 219).1.cls ≠ "java/lang/invoke/MethodHandle" ∧ (mt 219).1.cls ≠ "java/lang/invoke/VarHandle" ∧ (parseMethodDescriptor (mt 219).1.desc).map (fun d => d.parameters.length) = some 1 := ⟨by decide +kernel, by decide +kernel, by decide +kernel⟩
theorem cl_219 : (mt 219).2.2.1 ≤ 45 := by decide
theorem cz_220 : (mt 220).2.2.2.2 = [] := rfl
theorem cc_220 : Cond.code (mt 220).1 (mt 220).2.1 (mt 220).2.2.1 (mt 220).2.2.2.1 ∈ lw_g := mG 1822 (by decide +kernel) rfl
theorem ci_220 : Cond.initialized (mt 220).1.cls ∈ lw_g := w_105
theorem cm_220 : Cond.instanceMethod (mt 220).1 ∈ lw_g := w_1821
theorem cs_220 : Cond.selects (mt 220).1.cls (mt 220).1 (mt 220).1 ∈ lw_g := w_57
theorem cd_220 : (mt 220).1.cls ≠ "java/lang/invoke/MethodHandle" ∧ (mt 220).1.cls ≠ "java/lang/invoke/VarHandle" ∧ (parseMethodDescriptor (mt 220).1.desc).map (fun d => d.parameters.length) = some 0 := ⟨by decide +kernel, by decide +kernel, by decide +kernel⟩
theorem cl_220 : (mt 220).2.2.1 ≤ 45 := by decide
theorem cz_221 : (mt 221).2.2.2.2 = [] := rfl
theorem cc_221 : Cond.code (mt 221).1 (mt 221).2.1 (mt 221).2.2.1 (mt 221).2.2.2.1 ∈ lw_g := mG 1846 (by decide +kernel) rfl
theorem ci_221 : Cond.initialized (mt 221).1.cls ∈ lw_g := w_105
theorem cm_221 : Cond.instanceMethod (mt 221).1 ∈ lw_g := w_1845
theorem cs_221 : Cond.selects (mt 221).1.cls (mt 221).1 (mt 221).1 ∈ lw_g := w_62
theorem cd_221 : (mt 221).1.cls ≠ "java/lang/invoke/MethodHandle" ∧ (mt 221).1.cls ≠ "java/lang/invoke/VarHandle" ∧ (parseMethodDescriptor (mt 221).1.desc).map (fun d => d.parameters.length) = some 0 := ⟨by decide +kernel, by decide +kernel, by decide +kernel⟩
theorem cl_221 : (mt 221).2.2.1 ≤ 45 := by decide
theorem cz_222 : (mt 222).2.2.2.2 = [] := rfl
theorem cc_222 : Cond.code (mt 222).1 (mt 222).2.1 (mt 222).2.2.1 (mt 222).2.2.2.1 ∈ lw_g := mG 1850 (by decide +kernel) rfl
theorem ci_222 : Cond.initialized (mt 222).1.cls ∈ lw_g := w_105
theorem cm_222 : Cond.instanceMethod (mt 222).1 ∈ lw_g := w_1849
theorem cs_222 : Cond.selects (mt 222).1.cls (mt 222).1 (mt 222).1 ∈ lw_g := w_63
theorem cd_222 : (mt 222).1.cls ≠ "java/lang/invoke/MethodHandle" ∧ (mt 222).1.cls ≠ "java/lang/invoke/VarHandle" ∧ (parseMethodDescriptor (mt 222).1.desc).map (fun d => d.parameters.length) = some 3 := ⟨by decide +kernel, by decide +kernel, by decide +kernel⟩
theorem cl_222 : (mt 222).2.2.1 ≤ 45 := by decide
theorem cz_223 : (mt 223).2.2.2.2 = [] := rfl
theorem cc_223 : Cond.code (mt 223).1 (mt 223).2.1 (mt 223).2.2.1 (mt 223).2.2.2.1 ∈ lw_g := mG 1946 (by decide +kernel) rfl
theorem ci_223 : Cond.initialized (mt 223).1.cls ∈ lw_g := w_105
theorem cm_223 : Cond.instanceMethod (mt 223).1 ∈ lw_g := w_1945
theorem cs_223 : Cond.selects (mt 223).1.cls (mt 223).1 (mt 223).1 ∈ lw_g := w_64
theorem cd_223 : (mt 223).1.cls ≠ "java/lang/invoke/MethodHandle" ∧ (mt 223).1.cls ≠ "java/lang/invoke/VarHandle" ∧ (parseMethodDescriptor (mt 223).1.desc).map (fun d => d.parameters.length) = some 1 := ⟨by decide +kernel, by decide +kernel, by decide +kernel⟩
theorem cl_223 : (mt 223).2.2.1 ≤ 45 := by decide
theorem cz_224 : (mt 224).2.2.2.2 = [] := rfl
theorem cc_224 : Cond.code (mt 224).1 (mt 224).2.1 (mt 224).2.2.1 (mt 224).2.2.2.1 ∈ lw_g := mG 2071 (by decide +kernel) rfl
theorem ci_224 : Cond.initialized (mt 224).1.cls ∈ lw_g := w_105
theorem cm_224 : Cond.instanceMethod (mt 224).1 ∈ lw_g := w_2070
theorem cs_224 : Cond.selects (mt 224).1.cls (mt 224).1 (mt 224).1 ∈ lw_g := w_81
theorem cd_224 : (mt 224).1.cls ≠ "java/lang/invoke/MethodHandle" ∧ (mt 224).1.cls ≠ "java/lang/invoke/VarHandle" ∧ (parseMethodDescriptor (mt 224).1.desc).map (fun d => d.parameters.length) = some 0 := ⟨by decide +kernel, by decide +kernel, by decide +kernel⟩
theorem cl_224 : (mt 224).2.2.1 ≤ 45 := by decide
theorem cz_225 : (mt 225).2.2.2.2 = [] := rfl
theorem cc_225 : Cond.code (mt 225).1 (mt 225).2.1 (mt 225).2.2.1 (mt 225).2.2.2.1 ∈ lw_g := mG 1966 (by decide +kernel) rfl
theorem ci_225 : Cond.initialized (mt 225).1.cls ∈ lw_g := w_105
theorem cm_225 : Cond.instanceMethod (mt 225).1 ∈ lw_g := w_1965
theorem cs_225 : Cond.selects (mt 225).1.cls (mt 225).1 (mt 225).1 ∈ lw_g := w_67
theorem cd_225 : (mt 225).1.cls ≠ "java/lang/invoke/MethodHandle" ∧ (mt 225).1.cls ≠ "java/lang/invoke/VarHandle" ∧ (parseMethodDescriptor (mt 225).1.desc).map (fun d => d.parameters.length) = some 2 := ⟨by decide +kernel, by decide +kernel, by decide +kernel⟩
theorem cl_225 : (mt 225).2.2.1 ≤ 45 := by decide
theorem cz_226 : (mt 226).2.2.2.2 = [] := rfl
theorem cc_226 : Cond.code (mt 226).1 (mt 226).2.1 (mt 226).2.2.1 (mt 226).2.2.2.1 ∈ lw_g := mG 2067 (by decide +kernel) rfl
theorem ci_226 : Cond.initialized (mt 226).1.cls ∈ lw_g := w_105
theorem cm_226 : Cond.instanceMethod (mt 226).1 ∈ lw_g := w_2066
theorem cs_226 : Cond.selects (mt 226).1.cls (mt 226).1 (mt 226).1 ∈ lw_g := w_80
theorem cd_226 : (mt 226).1.cls ≠ "java/lang/invoke/MethodHandle" ∧ (mt 226).1.cls ≠ "java/lang/invoke/VarHandle" ∧ (parseMethodDescriptor (mt 226).1.desc).map (fun d => d.parameters.length) = some 0 := ⟨by decide +kernel, by decide +kernel, by decide +kernel⟩
theorem cl_226 : (mt 226).2.2.1 ≤ 45 := by decide
theorem cz_229 : (mt 229).2.2.2.2 = [] := rfl
theorem cc_229 : Cond.code (mt 229).1 (mt 229).2.1 (mt 229).2.2.1 (mt 229).2.2.2.1 ∈ lw_g := mG 1675 (by decide +kernel) rfl
theorem ci_229 : Cond.initialized (mt 229).1.cls ∈ lw_g := w_96
theorem cm_229 : Cond.instanceMethod (mt 229).1 ∈ lw_g := w_1674
theorem cs_229 : Cond.selects (mt 229).1.cls (mt 229).1 (mt 229).1 ∈ lw_g := w_37
theorem cd_229 : (mt 229).1.cls ≠ "java/lang/invoke/MethodHandle" ∧ (mt 229).1.cls ≠ "java/lang/invoke/VarHandle" ∧ (parseMethodDescriptor (mt 229).1.desc).map (fun d => d.parameters.length) = some 1 := ⟨by decide +kernel, by decide +kernel, by decide +kernel⟩
theorem cl_229 : (mt 229).2.2.1 ≤ 45 := by decide
theorem cz_230 : (mt 230).2.2.2.2 = [] := rfl
theorem cc_230 : Cond.code (mt 230).1 (mt 230).2.1 (mt 230).2.2.1 (mt 230).2.2.2.1 ∈ lw_g := mG 1686 (by decide +kernel) rfl
theorem ci_230 : Cond.initialized (mt 230).1.cls ∈ lw_g := w_96
theorem cm_230 : Cond.static (mt 230).1 ∈ lw_g := w_1685
theorem cd_230 : (mt 230).1.cls ≠ "java/lang/invoke/MethodHandle" ∧ (mt 230).1.cls ≠ "java/lang/invoke/VarHandle" ∧ (parseMethodDescriptor (mt 230).1.desc).map (fun d => d.parameters.length) = some 3 := ⟨by decide +kernel, by decide +kernel, by decide +kernel⟩
theorem cl_230 : (mt 230).2.2.1 ≤ 45 := by decide
theorem cz_231 : (mt 231).2.2.2.2 = [] := rfl
theorem cc_231 : Cond.code (mt 231).1 (mt 231).2.1 (mt 231).2.2.1 (mt 231).2.2.2.1 ∈ lw_g := mG 1755 (by decide +kernel) rfl
theorem ci_231 : Cond.initialized (mt 231).1.cls ∈ lw_g := w_96
theorem cm_231 : Cond.static (mt 231).1 ∈ lw_g := w_1754
theorem cd_231 : (mt 231).1.cls ≠ "java/lang/invoke/MethodHandle" ∧ (mt 231).1.cls ≠ "java/lang/invoke/VarHandle" ∧ (parseMethodDescriptor (mt 231).1.desc).map (fun d => d.parameters.length) = some 2 := ⟨by decide +kernel, by decide +kernel, by decide +kernel⟩
theorem cl_231 : (mt 231).2.2.1 ≤ 45 := by decide
theorem cz_232 : (mt 232).2.2.2.2 = [] := rfl
theorem cc_232 : Cond.code (mt 232).1 (mt 232).2.1 (mt 232).2.2.1 (mt 232).2.2.2.1 ∈ lw_g := mG 1689 (by decide +kernel) rfl
theorem ci_232 : Cond.initialized (mt 232).1.cls ∈ lw_g := w_96
theorem cm_232 : Cond.static (mt 232).1 ∈ lw_g := w_1688
theorem cd_232 : (mt 232).1.cls ≠ "java/lang/invoke/MethodHandle" ∧ (mt 232).1.cls ≠ "java/lang/invoke/VarHandle" ∧ (parseMethodDescriptor (mt 232).1.desc).map (fun d => d.parameters.length) = some 1 := ⟨by decide +kernel, by decide +kernel, by decide +kernel⟩
theorem cl_232 : (mt 232).2.2.1 ≤ 45 := by decide
theorem cz_233 : (mt 233).2.2.2.2 = [] := rfl
theorem cc_233 : Cond.code (mt 233).1 (mt 233).2.1 (mt 233).2.2.1 (mt 233).2.2.2.1 ∈ lw_g := mG 1683 (by decide +kernel) rfl
theorem ci_233 : Cond.initialized (mt 233).1.cls ∈ lw_g := w_96
theorem cm_233 : Cond.instanceMethod (mt 233).1 ∈ lw_g := w_1682
theorem cs_233 : Cond.selects (mt 233).1.cls (mt 233).1 (mt 233).1 ∈ lw_g := w_38
theorem cd_233 : (mt 233).1.cls ≠ "java/lang/invoke/MethodHandle" ∧ (mt 233).1.cls ≠ "java/lang/invoke/VarHandle" ∧ (parseMethodDescriptor (mt 233).1.desc).map (fun d => d.parameters.length) = some 1 := ⟨by decide +kernel, by decide +kernel, by decide +kernel⟩
theorem cl_233 : (mt 233).2.2.1 ≤ 45 := by decide
theorem cz_234 : (mt 234).2.2.2.2 = [] := rfl
theorem cc_234 : Cond.code (mt 234).1 (mt 234).2.1 (mt 234).2.2.1 (mt 234).2.2.2.1 ∈ lw_g := mG 1697 (by decide +kernel) rfl
theorem ci_234 : Cond.initialized (mt 234).1.cls ∈ lw_g := w_96
theorem cm_234 : Cond.instanceMethod (mt 234).1 ∈ lw_g := w_1696
theorem cs_234 : Cond.selects (mt 234).1.cls (mt 234).1 (mt 234).1 ∈ lw_g := w_39
theorem cd_234 : (mt 234).1.cls ≠ "java/lang/invoke/MethodHandle" ∧ (mt 234).1.cls ≠ "java/lang/invoke/VarHandle" ∧ (parseMethodDescriptor (mt 234).1.desc).map (fun d => d.parameters.length) = some 1 := ⟨by decide +kernel, by decide +kernel, by decide +kernel⟩
theorem cl_234 : (mt 234).2.2.1 ≤ 45 := by decide
theorem cz_235 : (mt 235).2.2.2.2 = [] := rfl
theorem cc_235 : Cond.code (mt 235).1 (mt 235).2.1 (mt 235).2.2.1 (mt 235).2.2.2.1 ∈ lw_g := mG 1708 (by decide +kernel) rfl
theorem ci_235 : Cond.initialized (mt 235).1.cls ∈ lw_g := w_96
theorem cm_235 : Cond.static (mt 235).1 ∈ lw_g := w_1707
theorem cd_235 : (mt 235).1.cls ≠ "java/lang/invoke/MethodHandle" ∧ (mt 235).1.cls ≠ "java/lang/invoke/VarHandle" ∧ (parseMethodDescriptor (mt 235).1.desc).map (fun d => d.parameters.length) = some 1 := ⟨by decide +kernel, by decide +kernel, by decide +kernel⟩
theorem cl_235 : (mt 235).2.2.1 ≤ 45 := by decide
theorem cz_238 : (mt 238).2.2.2.2 = [] := rfl
theorem cc_238 : Cond.code (mt 238).1 (mt 238).2.1 (mt 238).2.2.1 (mt 238).2.2.2.1 ∈ lw_g := mG 1701 (by decide +kernel) rfl
theorem ci_238 : Cond.initialized (mt 238).1.cls ∈ lw_g := w_96
theorem cm_238 : Cond.instanceMethod (mt 238).1 ∈ lw_g := w_1700
theorem cs_238 : Cond.selects (mt 238).1.cls (mt 238).1 (mt 238).1 ∈ lw_g := w_40
theorem cd_238 : (mt 238).1.cls ≠ "java/lang/invoke/MethodHandle" ∧ (mt 238).1.cls ≠ "java/lang/invoke/VarHandle" ∧ (parseMethodDescriptor (mt 238).1.desc).map (fun d => d.parameters.length) = some 5 := ⟨by decide +kernel, by decide +kernel, by decide +kernel⟩
theorem cl_238 : (mt 238).2.2.1 ≤ 45 := by decide
theorem cz_242 : (mt 242).2.2.2.2 = [] := rfl
theorem cc_242 : Cond.code (mt 242).1 (mt 242).2.1 (mt 242).2.2.1 (mt 242).2.2.2.1 ∈ lw_g := mG 1720 (by decide +kernel) rfl
theorem ci_242 : Cond.initialized (mt 242).1.cls ∈ lw_g := w_96
theorem cm_242 : Cond.instanceMethod (mt 242).1 ∈ lw_g := w_1719
theorem cs_242 : Cond.selects (mt 242).1.cls (mt 242).1 (mt 242).1 ∈ lw_g := w_41
theorem cd_242 : (mt 242).1.cls ≠ "java/lang/invoke/MethodHandle" ∧ (mt 242).1.cls ≠ "java/lang/invoke/VarHandle" ∧ (parseMethodDescriptor (mt 242).1.desc).map (fun d => d.parameters.length) = some 6 := ⟨by decide +kernel, by decide +kernel, by decide +kernel⟩
theorem cl_242 : (mt 242).2.2.1 ≤ 45 := by decide
theorem cz_244 : (mt 244).2.2.2.2 = [] := rfl
theorem cc_244 : Cond.code (mt 244).1 (mt 244).2.1 (mt 244).2.2.1 (mt 244).2.2.2.1 ∈ lw_g := mG 1728 (by decide +kernel) rfl
theorem ci_244 : Cond.initialized (mt 244).1.cls ∈ lw_g := w_96
theorem cm_244 : Cond.instanceMethod (mt 244).1 ∈ lw_g := w_1727
theorem cs_244 : Cond.selects (mt 244).1.cls (mt 244).1 (mt 244).1 ∈ lw_g := w_42
theorem cd_244 : (mt 244).1.cls ≠ "java/lang/invoke/MethodHandle" ∧ (mt 244).1.cls ≠ "java/lang/invoke/VarHandle" ∧ (parseMethodDescriptor (mt 244).1.desc).map (fun d => d.parameters.length) = some 1 := ⟨by decide +kernel, by decide +kernel, by decide +kernel⟩
theorem cl_244 : (mt 244).2.2.1 ≤ 45 := by decide
theorem cz_246 : (mt 246).2.2.2.2 = [] := rfl
theorem cc_246 : Cond.code (mt 246).1 (mt 246).2.1 (mt 246).2.2.1 (mt 246).2.2.2.1 ∈ lw_g := mG 1752 (by decide +kernel) rfl
theorem ci_246 : Cond.initialized (mt 246).1.cls ∈ lw_g := w_96
theorem cm_246 : Cond.instanceMethod (mt 246).1 ∈ lw_g := w_1751
theorem cs_246 : Cond.selects (mt 246).1.cls (mt 246).1 (mt 246).1 ∈ lw_g := w_45
theorem cd_246 : (mt 246).1.cls ≠ "java/lang/invoke/MethodHandle" ∧ (mt 246).1.cls ≠ "java/lang/invoke/VarHandle" ∧ (parseMethodDescriptor (mt 246).1.desc).map (fun d => d.parameters.length) = some 1 := ⟨by decide +kernel, by decide +kernel, by decide +kernel⟩
theorem cl_246 : (mt 246).2.2.1 ≤ 45 := by decide
theorem cz_249 : (mt 249).2.2.2.2 = [] := rfl
theorem cc_249 : Cond.code (mt 249).1 (mt 249).2.1 (mt 249).2.2.1 (mt 249).2.2.2.1 ∈ lw_g := mG 1748 (by decide +kernel) rfl
theorem ci_249 : Cond.initialized (mt 249).1.cls ∈ lw_g := w_96
theorem cm_249 : Cond.instanceMethod (mt 249).1 ∈ lw_g := w_1747
theorem cs_249 : Cond.selects (mt 249).1.cls (mt 249).1 (mt 249).1 ∈ lw_g := w_44
theorem cd_249 : (mt 249).1.cls ≠ "java/lang/invoke/MethodHandle" ∧ (mt 249).1.cls ≠ "java/lang/invoke/VarHandle" ∧ (parseMethodDescriptor (mt 249).1.desc).map (fun d => d.parameters.length) = some 1 := ⟨by decide +kernel, by decide +kernel, by decide +kernel⟩
theorem cl_249 : (mt 249).2.2.1 ≤ 45 := by decide
theorem cz_250 : (mt 250).2.2.2.2 = [] := rfl
theorem cc_250 : Cond.code (mt 250).1 (mt 250).2.1 (mt 250).2.2.1 (mt 250).2.2.2.1 ∈ lw_g := mG 1744 (by decide +kernel) rfl
theorem ci_250 : Cond.initialized (mt 250).1.cls ∈ lw_g := w_96
theorem cm_250 : Cond.instanceMethod (mt 250).1 ∈ lw_g := w_1743
theorem cs_250 : Cond.selects (mt 250).1.cls (mt 250).1 (mt 250).1 ∈ lw_g := w_43
theorem cd_250 : (mt 250).1.cls ≠ "java/lang/invoke/MethodHandle" ∧ (mt 250).1.cls ≠ "java/lang/invoke/VarHandle" ∧ (parseMethodDescriptor (mt 250).1.desc).map (fun d => d.parameters.length) = some 2 := ⟨by decide +kernel, by decide +kernel, by decide +kernel⟩
theorem cl_250 : (mt 250).2.2.1 ≤ 45 := by decide
theorem cz_254 : (mt 254).2.2.2.2 = [] := rfl
theorem cc_254 : Cond.code (mt 254).1 (mt 254).2.1 (mt 254).2.2.1 (mt 254).2.2.2.1 ∈ lw_g := mG 1954 (by decide +kernel) rfl
theorem ci_254 : Cond.initialized (mt 254).1.cls ∈ lw_g := w_96
theorem cm_254 : Cond.instanceMethod (mt 254).1 ∈ lw_g := w_1953
theorem cs_254 : Cond.selects (mt 254).1.cls (mt 254).1 (mt 254).1 ∈ lw_g := w_65
theorem cd_254 : (mt 254).1.cls ≠ "java/lang/invoke/MethodHandle" ∧ (mt 254).1.cls ≠ "java/lang/invoke/VarHandle" ∧ (parseMethodDescriptor (mt 254).1.desc).map (fun d => d.parameters.length) = some 2 := ⟨by decide +kernel, by decide +kernel, by decide +kernel⟩
theorem cl_254 : (mt 254).2.2.1 ≤ 45 := by decide
theorem cz_256 : (mt 256).2.2.2.2 = [] := rfl
theorem cc_256 : Cond.code (mt 256).1 (mt 256).2.1 (mt 256).2.2.1 (mt 256).2.2.2.1 ∈ lw_g := mG 1962 (by decide +kernel) rfl
theorem ci_256 : Cond.initialized (mt 256).1.cls ∈ lw_g := w_96
theorem cm_256 : Cond.instanceMethod (mt 256).1 ∈ lw_g := w_1961
theorem cs_256 : Cond.selects (mt 256).1.cls (mt 256).1 (mt 256).1 ∈ lw_g := w_66
theorem cd_256 : (mt 256).1.cls ≠ "java/lang/invoke/MethodHandle" ∧ (mt 256).1.cls ≠ "java/lang/invoke/VarHandle" ∧ (parseMethodDescriptor (mt 256).1.desc).map (fun d => d.parameters.length) = some 2 := ⟨by decide +kernel, by decide +kernel, by decide +kernel⟩
theorem cl_256 : (mt 256).2.2.1 ≤ 45 := by decide
theorem cz_260 : (mt 260).2.2.2.2 = [] := rfl
theorem cc_260 : Cond.code (mt 260).1 (mt 260).2.1 (mt 260).2.2.1 (mt 260).2.2.2.1 ∈ lw_g := mG 1986 (by decide +kernel) rfl
theorem ci_260 : Cond.initialized (mt 260).1.cls ∈ lw_g := w_96
theorem cm_260 : Cond.instanceMethod (mt 260).1 ∈ lw_g := w_1985
theorem cs_260 : Cond.selects (mt 260).1.cls (mt 260).1 (mt 260).1 ∈ lw_g := w_68
theorem cd_260 : (mt 260).1.cls ≠ "java/lang/invoke/MethodHandle" ∧ (mt 260).1.cls ≠ "java/lang/invoke/VarHandle" ∧ (parseMethodDescriptor (mt 260).1.desc).map (fun d => d.parameters.length) = some 1 := ⟨by decide +kernel, by decide +kernel, by decide +kernel⟩
theorem cl_260 : (mt 260).2.2.1 ≤ 45 := by decide
theorem cz_261 : (mt 261).2.2.2.2 = [] := rfl
theorem cc_261 : Cond.code (mt 261).1 (mt 261).2.1 (mt 261).2.2.1 (mt 261).2.2.2.1 ∈ lw_g := mG 2001 (by decide +kernel) rfl
theorem ci_261 : Cond.initialized (mt 261).1.cls ∈ lw_g := w_96
theorem cm_261 : Cond.instanceMethod (mt 261).1 ∈ lw_g := w_2000
theorem cs_261 : Cond.selects (mt 261).1.cls (mt 261).1 (mt 261).1 ∈ lw_g := w_70
theorem cd_261 : (mt 261).1.cls ≠ "java/lang/invoke/MethodHandle" ∧ (mt 261).1.cls ≠ "java/lang/invoke/VarHandle" ∧ (parseMethodDescriptor (mt 261).1.desc).map (fun d => d.parameters.length) = some 1 := ⟨by decide +kernel, by decide +kernel, by decide +kernel⟩
theorem cl_261 : (mt 261).2.2.1 ≤ 45 := by decide
theorem cz_263 : (mt 263).2.2.2.2 = [] := rfl
theorem cc_263 : Cond.code (mt 263).1 (mt 263).2.1 (mt 263).2.2.1 (mt 263).2.2.2.1 ∈ lw_g := mG 1996 (by decide +kernel) rfl
theorem ci_263 : Cond.initialized (mt 263).1.cls ∈ lw_g := w_96
theorem cm_263 : Cond.static (mt 263).1 ∈ lw_g := w_1995
theorem cd_263 : (mt 263).1.cls ≠ "java/lang/invoke/MethodHandle" ∧ (mt 263).1.cls ≠ "java/lang/invoke/VarHandle" ∧ (parseMethodDescriptor (mt 263).1.desc).map (fun d => d.parameters.length) = some 2 := ⟨by decide +kernel, by decide +kernel, by decide +kernel⟩
theorem cl_263 : (mt 263).2.2.1 ≤ 45 := by decide
theorem cz_264 : (mt 264).2.2.2.2 = [] := rfl
theorem cc_264 : Cond.code (mt 264).1 (mt 264).2.1 (mt 264).2.2.1 (mt 264).2.2.2.1 ∈ lw_g := mG 1993 (by decide +kernel) rfl
theorem ci_264 : Cond.initialized (mt 264).1.cls ∈ lw_g := w_96
theorem cm_264 : Cond.static (mt 264).1 ∈ lw_g := w_1992
theorem cd_264 : (mt 264).1.cls ≠ "java/lang/invoke/MethodHandle" ∧ (mt 264).1.cls ≠ "java/lang/invoke/VarHandle" ∧ (parseMethodDescriptor (mt 264).1.desc).map (fun d => d.parameters.length) = some 2 := ⟨by decide +kernel, by decide +kernel, by decide +kernel⟩
theorem cl_264 : (mt 264).2.2.1 ≤ 45 := by decide
theorem cz_265 : (mt 265).2.2.2.2 = [] := rfl
theorem cc_265 : Cond.code (mt 265).1 (mt 265).2.1 (mt 265).2.2.1 (mt 265).2.2.2.1 ∈ lw_g := mG 2020 (by decide +kernel) rfl
theorem ci_265 : Cond.initialized (mt 265).1.cls ∈ lw_g := w_96
theorem cm_265 : Cond.static (mt 265).1 ∈ lw_g := w_2019
theorem cd_265 : (mt 265).1.cls ≠ "java/lang/invoke/MethodHandle" ∧ (mt 265).1.cls ≠ "java/lang/invoke/VarHandle" ∧ (parseMethodDescriptor (mt 265).1.desc).map (fun d => d.parameters.length) = some 2 := ⟨by decide +kernel, by decide +kernel, by decide +kernel⟩
theorem cl_265 : (mt 265).2.2.1 ≤ 45 := by decide
theorem cz_266 : (mt 266).2.2.2.2 = [] := rfl
theorem cc_266 : Cond.code (mt 266).1 (mt 266).2.1 (mt 266).2.2.1 (mt 266).2.2.2.1 ∈ lw_g := mG 1990 (by decide +kernel) rfl
theorem ci_266 : Cond.initialized (mt 266).1.cls ∈ lw_g := w_96
theorem cm_266 : Cond.instanceMethod (mt 266).1 ∈ lw_g := w_1989
theorem cs_266 : Cond.selects (mt 266).1.cls (mt 266).1 (mt 266).1 ∈ lw_g := w_69
theorem cd_266 : (mt 266).1.cls ≠ "java/lang/invoke/MethodHandle" ∧ (mt 266).1.cls ≠ "java/lang/invoke/VarHandle" ∧ (parseMethodDescriptor (mt 266).1.desc).map (fun d => d.parameters.length) = some 1 := ⟨by decide +kernel, by decide +kernel, by decide +kernel⟩
theorem cl_266 : (mt 266).2.2.1 ≤ 45 := by decide
theorem cz_267 : (mt 267).2.2.2.2 = [] := rfl
theorem cc_267 : Cond.code (mt 267).1 (mt 267).2.1 (mt 267).2.2.1 (mt 267).2.2.2.1 ∈ lw_g := mG 2005 (by decide +kernel) rfl
theorem ci_267 : Cond.initialized (mt 267).1.cls ∈ lw_g := w_96
theorem cm_267 : Cond.instanceMethod (mt 267).1 ∈ lw_g := w_2004
theorem cs_267 : Cond.selects (mt 267).1.cls (mt 267).1 (mt 267).1 ∈ lw_g := w_71
theorem cd_267 : (mt 267).1.cls ≠ "java/lang/invoke/MethodHandle" ∧ (mt 267).1.cls ≠ "java/lang/invoke/VarHandle" ∧ (parseMethodDescriptor (mt 267).1.desc).map (fun d => d.parameters.length) = some 0 := ⟨by decide +kernel, by decide +kernel, by decide +kernel⟩
theorem cl_267 : (mt 267).2.2.1 ≤ 45 := by decide
theorem cz_268 : (mt 268).2.2.2.2 = [] := rfl
theorem cc_268 : Cond.code (mt 268).1 (mt 268).2.1 (mt 268).2.2.1 (mt 268).2.2.2.1 ∈ lw_g := mG 2009 (by decide +kernel) rfl
theorem ci_268 : Cond.initialized (mt 268).1.cls ∈ lw_g := w_96
theorem cm_268 : Cond.instanceMethod (mt 268).1 ∈ lw_g := w_2008
theorem cs_268 : Cond.selects (mt 268).1.cls (mt 268).1 (mt 268).1 ∈ lw_g := w_72
theorem cd_268 : (mt 268).1.cls ≠ "java/lang/invoke/MethodHandle" ∧ (mt 268).1.cls ≠ "java/lang/invoke/VarHandle" ∧ (parseMethodDescriptor (mt 268).1.desc).map (fun d => d.parameters.length) = some 3 := ⟨by decide +kernel, by decide +kernel, by decide +kernel⟩
theorem cl_268 : (mt 268).2.2.1 ≤ 45 := by decide
theorem cz_270 : (mt 270).2.2.2.2 = [] := rfl
theorem cc_270 : Cond.code (mt 270).1 (mt 270).2.1 (mt 270).2.2.1 (mt 270).2.2.2.1 ∈ lw_g := mG 2017 (by decide +kernel) rfl
theorem ci_270 : Cond.initialized (mt 270).1.cls ∈ lw_g := w_96
theorem cm_270 : Cond.instanceMethod (mt 270).1 ∈ lw_g := w_2016
theorem cs_270 : Cond.selects (mt 270).1.cls (mt 270).1 (mt 270).1 ∈ lw_g := w_73
theorem cd_270 : (mt 270).1.cls ≠ "java/lang/invoke/MethodHandle" ∧ (mt 270).1.cls ≠ "java/lang/invoke/VarHandle" ∧ (parseMethodDescriptor (mt 270).1.desc).map (fun d => d.parameters.length) = some 1 := ⟨by decide +kernel, by decide +kernel, by decide +kernel⟩
theorem cl_270 : (mt 270).2.2.1 ≤ 45 := by decide
theorem cz_272 : (mt 272).2.2.2.2 = [] := rfl
theorem cc_272 : Cond.code (mt 272).1 (mt 272).2.1 (mt 272).2.2.1 (mt 272).2.2.2.1 ∈ lw_g := mG 2032 (by decide +kernel) rfl
theorem ci_272 : Cond.initialized (mt 272).1.cls ∈ lw_g := w_96
theorem cm_272 : Cond.instanceMethod (mt 272).1 ∈ lw_g := w_2031
theorem cs_272 : Cond.selects (mt 272).1.cls (mt 272).1 (mt 272).1 ∈ lw_g := w_75
theorem cd_272 : (mt 272).1.cls ≠ "java/lang/invoke/MethodHandle" ∧ (mt 272).1.cls ≠ "java/lang/invoke/VarHandle" ∧ (parseMethodDescriptor (mt 272).1.desc).map (fun d => d.parameters.length) = some 2 := ⟨by decide +kernel, by decide +kernel, by decide +kernel⟩
theorem cl_272 : (mt 272).2.2.1 ≤ 45 := by decide
theorem cz_273 : (mt 273).2.2.2.2 = [] := rfl
theorem cc_273 : Cond.code (mt 273).1 (mt 273).2.1 (mt 273).2.2.1 (mt 273).2.2.2.1 ∈ lw_g := mG 2028 (by decide +kernel) rfl
theorem ci_273 : Cond.initialized (mt 273).1.cls ∈ lw_g := w_96
theorem cm_273 : Cond.instanceMethod (mt 273).1 ∈ lw_g := w_2027
theorem cs_273 : Cond.selects (mt 273).1.cls (mt 273).1 (mt 273).1 ∈ lw_g := w_74
theorem cd_273 : (mt 273).1.cls ≠ "java/lang/invoke/MethodHandle" ∧ (mt 273).1.cls ≠ "java/lang/invoke/VarHandle" ∧ (parseMethodDescriptor (mt 273).1.desc).map (fun d => d.parameters.length) = some 2 := ⟨by decide +kernel, by decide +kernel, by decide +kernel⟩
theorem cl_273 : (mt 273).2.2.1 ≤ 45 := by decide
theorem cz_275 : (mt 275).2.2.2.2 = [] := rfl
theorem cc_275 : Cond.code (mt 275).1 (mt 275).2.1 (mt 275).2.2.1 (mt 275).2.2.2.1 ∈ lw_g := mG 2040 (by decide +kernel) rfl
theorem ci_275 : Cond.initialized (mt 275).1.cls ∈ lw_g := w_96
theorem cm_275 : Cond.instanceMethod (mt 275).1 ∈ lw_g := w_2039
theorem cs_275 : Cond.selects (mt 275).1.cls (mt 275).1 (mt 275).1 ∈ lw_g := w_76
theorem cd_275 : (mt 275).1.cls ≠ "java/lang/invoke/MethodHandle" ∧ (mt 275).1.cls ≠ "java/lang/invoke/VarHandle" ∧ (parseMethodDescriptor (mt 275).1.desc).map (fun d => d.parameters.length) = some 3 := ⟨by decide +kernel, by decide +kernel, by decide +kernel⟩
theorem cl_275 : (mt 275).2.2.1 ≤ 45 := by decide
theorem cz_277 : (mt 277).2.2.2.2 = [] := rfl
theorem cc_277 : Cond.code (mt 277).1 (mt 277).2.1 (mt 277).2.2.1 (mt 277).2.2.2.1 ∈ lw_g := mG 2052 (by decide +kernel) rfl
theorem ci_277 : Cond.initialized (mt 277).1.cls ∈ lw_g := w_96
theorem cm_277 : Cond.instanceMethod (mt 277).1 ∈ lw_g := w_2051
theorem cs_277 : Cond.selects (mt 277).1.cls (mt 277).1 (mt 277).1 ∈ lw_g := w_78
theorem cd_277 : (mt 277).1.cls ≠ "java/lang/invoke/MethodHandle" ∧ (mt 277).1.cls ≠ "java/lang/invoke/VarHandle" ∧ (parseMethodDescriptor (mt 277).1.desc).map (fun d => d.parameters.length) = some 1 := ⟨by decide +kernel, by decide +kernel, by decide +kernel⟩
theorem cl_277 : (mt 277).2.2.1 ≤ 45 := by decide
theorem cz_278 : (mt 278).2.2.2.2 = [] := rfl
theorem cc_278 : Cond.code (mt 278).1 (mt 278).2.1 (mt 278).2.2.1 (mt 278).2.2.2.1 ∈ lw_g := mG 2055 (by decide +kernel) rfl
theorem ci_278 : Cond.initialized (mt 278).1.cls ∈ lw_g := w_96
theorem cm_278 : Cond.static (mt 278).1 ∈ lw_g := w_2054
theorem cd_278 : (mt 278).1.cls ≠ "java/lang/invoke/MethodHandle" ∧ (mt 278).1.cls ≠ "java/lang/invoke/VarHandle" ∧ (parseMethodDescriptor (mt 278).1.desc).map (fun d => d.parameters.length) = some 1 := ⟨by decide +kernel, by decide +kernel, by decide +kernel⟩
theorem cl_278 : (mt 278).2.2.1 ≤ 45 := by decide
theorem cz_279 : (mt 279).2.2.2.2 = [] := rfl
theorem cc_279 : Cond.code (mt 279).1 (mt 279).2.1 (mt 279).2.2.1 (mt 279).2.2.2.1 ∈ lw_g := mG 2048 (by decide +kernel) rfl
theorem ci_279 : Cond.initialized (mt 279).1.cls ∈ lw_g := w_96
theorem cm_279 : Cond.instanceMethod (mt 279).1 ∈ lw_g := w_2047
theorem cs_279 : Cond.selects (mt 279).1.cls (mt 279).1 (mt 279).1 ∈ lw_g := w_77
theorem cd_279 : (mt 279).1.cls ≠ "java/lang/invoke/MethodHandle" ∧ (mt 279).1.cls ≠ "java/lang/invoke/VarHandle" ∧ (parseMethodDescriptor (mt 279).1.desc).map (fun d => d.parameters.length) = some 2 := ⟨by decide +kernel, by decide +kernel, by decide +kernel⟩
theorem cl_279 : (mt 279).2.2.1 ≤ 45 := by decide
theorem cz_281 : (mt 281).2.2.2.2 = [] := rfl
theorem cc_281 : Cond.code (mt 281).1 (mt 281).2.1 (mt 281).2.2.1 (mt 281).2.2.2.1 ∈ lw_g := mG 2063 (by decide +kernel) rfl
theorem ci_281 : Cond.initialized (mt 281).1.cls ∈ lw_g := w_96
theorem cm_281 : Cond.instanceMethod (mt 281).1 ∈ lw_g := w_2062
theorem cs_281 : Cond.selects (mt 281).1.cls (mt 281).1 (mt 281).1 ∈ lw_g := w_79
theorem cd_281 : (mt 281).1.cls ≠ "java/lang/invoke/MethodHandle" ∧ (mt 281).1.cls ≠ "java/lang/invoke/VarHandle" ∧ (parseMethodDescriptor (mt 281).1.desc).map (fun d => d.parameters.length) = some 1 := ⟨by decide +kernel, by decide +kernel, by decide +kernel⟩
theorem cl_281 : (mt 281).2.2.1 ≤ 45 := by decide
theorem cz_287 : (mt 287).2.2.2.2 = [] := rfl
theorem cc_287 : Cond.code (mt 287).1 (mt 287).2.1 (mt 287).2.2.1 (mt 287).2.2.2.1 ∈ lw_g := mG 2095 (by decide +kernel) rfl
theorem ci_287 : Cond.initialized (mt 287).1.cls ∈ lw_g := w_96
theorem cm_287 : Cond.instanceMethod (mt 287).1 ∈ lw_g := w_2094
theorem cs_287 : Cond.selects (mt 287).1.cls (mt 287).1 (mt 287).1 ∈ lw_g := w_82
theorem cd_287 : (mt 287).1.cls ≠ "java/lang/invoke/MethodHandle" ∧ (mt 287).1.cls ≠ "java/lang/invoke/VarHandle" ∧ (parseMethodDescriptor (mt 287).1.desc).map (fun d => d.parameters.length) = some 2 := ⟨by decide +kernel, by decide +kernel, by decide +kernel⟩
theorem cl_287 : (mt 287).2.2.1 ≤ 45 := by decide
theorem cz_290 : (mt 290).2.2.2.2 = [] := rfl
theorem cc_290 : Cond.code (mt 290).1 (mt 290).2.1 (mt 290).2.2.1 (mt 290).2.2.2.1 ∈ lw_g := mG 568 (by decide +kernel) rfl
theorem ci_290 : Cond.initialized (mt 290).1.cls ∈ lw_g := w_103
theorem cm_290 : Cond.static (mt 290).1 ∈ lw_g := w_567
theorem cd_290 : (mt 290).1.cls ≠ "java/lang/invoke/MethodHandle" ∧ (mt 290).1.cls ≠ "java/lang/invoke/VarHandle" ∧ (parseMethodDescriptor (mt 290).1.desc).map (fun d => d.parameters.length) = some 1 := ⟨by decide +kernel, by decide +kernel, by decide +kernel⟩
theorem cl_290 : (mt 290).2.2.1 ≤ 45 := by decide
theorem cz_291 : (mt 291).2.2.2.2 = [] := rfl
theorem cc_291 : Cond.code (mt 291).1 (mt 291).2.1 (mt 291).2.2.1 (mt 291).2.2.2.1 ∈ lw_g := mG 1199 (by decide +kernel) rfl
theorem ci_291 : Cond.initialized (mt 291).1.cls ∈ lw_g := w_104
theorem cm_291 : Cond.static (mt 291).1 ∈ lw_g := w_1198
theorem cd_291 : (mt 291).1.cls ≠ "java/lang/invoke/MethodHandle" ∧ (mt 291).1.cls ≠ "java/lang/invoke/VarHandle" ∧ (parseMethodDescriptor (mt 291).1.desc).map (fun d => d.parameters.length) = some 1 := ⟨by decide +kernel, by decide +kernel, by decide +kernel⟩
theorem cl_291 : (mt 291).2.2.1 ≤ 45 := by decide
theorem cz_292 : (mt 292).2.2.2.2 = [] := rfl
theorem cc_292 : Cond.code (mt 292).1 (mt 292).2.1 (mt 292).2.2.1 (mt 292).2.2.2.1 ∈ lw_g := mG 1043 (by decide +kernel) rfl
theorem ci_292 : Cond.initialized (mt 292).1.cls ∈ lw_g := w_104
theorem cm_292 : Cond.static (mt 292).1 ∈ lw_g := w_1042
theorem cd_292 : (mt 292).1.cls ≠ "java/lang/invoke/MethodHandle" ∧ (mt 292).1.cls ≠ "java/lang/invoke/VarHandle" ∧ (parseMethodDescriptor (mt 292).1.desc).map (fun d => d.parameters.length) = some 2 := ⟨by decide +kernel, by decide +kernel, by decide +kernel⟩
theorem cl_292 : (mt 292).2.2.1 ≤ 45 := by decide
def exNames : List String := ["java/lang/RuntimeException", "java/lang/Exception"]
theorem exNames_ok : ∀ n ∈ exNames, Bundle.fit n = true := by decide +kernel
theorem ex_X11_71 : ∀ w ∈ vx_atS "LinkHarbour" 71 "java/lang/IllegalStateException" exNames, w ∈ lw_g ∨ w ∈ lw_n := by decide +kernel
theorem ex_X11_71_ot (ik : Nat) : ∀ w ∈ Cond.classLink "LinkHarbour" ik "java/lang/IllegalStateException" :: Cond.initialized "java/lang/IllegalStateException" :: vx_atS "LinkHarbour" 71 "java/lang/IllegalStateException" exNames, vx_ot w = true := List.forall_mem_cons.mpr ⟨rfl, by decide +kernel⟩
theorem ex_X11_86 : ∀ w ∈ vx_atS "LinkHarbour" 86 "java/lang/IndexOutOfBoundsException" exNames, w ∈ lw_g ∨ w ∈ lw_n := by decide +kernel
theorem ex_X11_86_ot (ik : Nat) : ∀ w ∈ Cond.classLink "LinkHarbour" ik "java/lang/IndexOutOfBoundsException" :: Cond.initialized "java/lang/IndexOutOfBoundsException" :: vx_atS "LinkHarbour" 86 "java/lang/IndexOutOfBoundsException" exNames, vx_ot w = true := List.forall_mem_cons.mpr ⟨rfl, by decide +kernel⟩
theorem ex_X11_94 : ∀ w ∈ vx_atS "LinkHarbour" 94 "java/lang/IllegalArgumentException" exNames, w ∈ lw_g ∨ w ∈ lw_n := by decide +kernel
theorem ex_X11_94_ot (ik : Nat) : ∀ w ∈ Cond.classLink "LinkHarbour" ik "java/lang/IllegalArgumentException" :: Cond.initialized "java/lang/IllegalArgumentException" :: vx_atS "LinkHarbour" 94 "java/lang/IllegalArgumentException" exNames, vx_ot w = true := List.forall_mem_cons.mpr ⟨rfl, by decide +kernel⟩
end
