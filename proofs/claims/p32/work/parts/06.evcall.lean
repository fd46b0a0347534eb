/-! EV: calls, whole methods, the depth. -/
/-- a method: its name, its code, its locals, what it returns, its table of handlers -/
abbrev EM : Type := Nat → MethodName × ByteArray × Nat × Option FieldType × List (Nat × Nat × Nat × Nat)
def ev_fr (d : Nat) : Nat := d
def ev_lw (d : Nat) : Nat := 36 * d
def ev_cw (mt : EM) (y : Nat) : Cond := match (mt y).2.2.2.2 with
  | [] => Cond.code (mt y).1 (mt y).2.1 (mt y).2.2.1 (mt y).2.2.2.1
  | hh => Cond.codeWith (mt y).1 (mt y).2.1 (mt y).2.2.1 (mt y).2.2.2.1 hh
def ev_ws (mt : EM) (Tg : List Cond) (y : Nat) : List Cond := ev_cw mt y :: Tg
theorem ev_ws0 {mt : EM} {Tg : List Cond} {y : Nat} (h : (mt y).2.2.2.2 = []) : ev_ws mt Tg y = Cond.code (mt y).1 (mt y).2.1 (mt y).2.2.1 (mt y).2.2.2.1 :: Tg := by
  unfold ev_ws ev_cw
  rw [h]
theorem ev_ws1 {mt : EM} {Tg : List Cond} {y : Nat} (h : (mt y).2.2.2.2 ≠ []) : ev_ws mt Tg y = Cond.codeWith (mt y).1 (mt y).2.1 (mt y).2.2.1 (mt y).2.2.2.1 (mt y).2.2.2.2 :: Tg := by
  unfold ev_ws ev_cw
  cases hq : (mt y).2.2.2.2 with
  | nil => exact absurd hq h
  | cons a b => rfl
def ev_Pc (D : va_G) (cl : List vw_C) (cs : Nat → ClassId) (ox : Nat → Nat) (A : Nat → Prop) (Tn : List Cond) (Tq : EQ) (al : List Nat) (h : List EC) (av : List Value) : Array Value → State → Prop := fun v U =>
  v = (av.map (ev_rv ox al)).toArray ∧ ev_Sr D cl cs ox Tn Tq A U ∧ al.length = h.length ∧ va_P D cl (ev_w cs ox al h) U.heap ∧ va_D A (ev_w cs ox al h) ∧ ev_wf h ∧ ∀ v ∈ av, ev_ok h.length v
def ev_Qc (D : va_G) (cl : List vw_C) (cs : Nat → ClassId) (ox : Nat → Nat) (A : Nat → Prop) (al : List Nat) (v : Option Value) (h : List EC) : Array Value → State → Outcome → State → Prop := fun _ st o t =>
  (∃ al' : List Nat, al <+: al' ∧ o = .returned (v.map (ev_rv ox al')) ∧ al'.length = h.length ∧ va_P D cl (ev_w cs ox al' h) t.heap ∧ va_D A (ev_w cs ox al' h) ∧ ev_wf h ∧ ∀ w ∈ v.toList, ev_ok h.length w) ∧ va_F A st t
def ev_XC (D : va_G) (cl : List vw_C) (cs : Nat → ClassId) (ox : Nat → Nat) (A : Nat → Prop) (al : List Nat) (E : String) (h : List EC) : String → State → State → Prop := fun E' st t =>
  E' = E ∧ (∃ al' : List Nat, al <+: al' ∧ al'.length = h.length ∧ va_P D cl (ev_w cs ox al' h) t.heap ∧ va_D A (ev_w cs ox al' h) ∧ ev_wf h) ∧ va_F A st t
def ev_Me (l : Launch) (mt : EM) (Tg Tn : List Cond) (Tq : EQ) (cl : List vw_C) (y F LW : Nat) (D : va_G) (cs : Nat → ClassId) (ox : Nat → Nat) (A : Nat → Prop) (al : List Nat) (hs : EH) (av : List Value) (o : Option Value ⊕ String) (hs' : EH) : Prop := match o with
  | .inl v => Met l (mt y).1 (ev_ws mt Tg y) { frames := F, cells := hs'.2.1 - hs.2.1, slots := hs'.2.2 - hs.2.2, locals := LW } (ev_Pc D cl cs ox A Tn Tq al hs.1 av) (ev_Qc D cl cs ox A al v hs'.1) (hs'.2.1 - hs.2.1) (hs'.2.2 - hs.2.2) A
  | .inr E => vx_Met l (mt y).1 (ev_ws mt Tg y) { frames := F, cells := hs'.2.1 - hs.2.1, slots := hs'.2.2 - hs.2.2, locals := LW } (ev_Pc D cl cs ox A Tn Tq al hs.1 av) (fun _ _ _ _ => False) (ev_XC D cl cs ox A al E hs'.1) (hs'.2.1 - hs.2.1) (hs'.2.2 - hs.2.2) A
/-- what holds of the callees, at depth d -/
def ev_CO (mt : EM) (Tg Tn : List Cond) (Tq : EQ) (cl : List vw_C) (d : Nat) : Launch → Room → (Nat → ClassId) → va_G → (Nat → Nat) → (Nat → Prop) → ECall → Prop := fun l R cs D ox A call =>
  ev_fr d + 1 ≤ R.frames ∧ 36 + ev_lw d ≤ R.locals ∧ ∀ (y : Nat) (av : List Value) (hs : EH) (o : Option Value ⊕ String) (hs' : EH), call y av hs = some (o, hs') →
    hs.2.1 ≤ hs'.2.1 ∧ hs.2.2 ≤ hs'.2.2 ∧ ∀ al : List Nat, ev_Me l mt Tg Tn Tq cl y (ev_fr d) (ev_lw d) D cs ox A al hs av o hs'
theorem ev_CO.small {mt : EM} {Tg Tn : List Cond} {Tq : EQ} {cl : List vw_C} {d : Nat} : ∀ (l : Launch) (R : Room) (cs : Nat → ClassId) (D : va_G) (ox : Nat → Nat) (A : Nat → Prop) (call : ECall), ev_CO mt Tg Tn Tq cl d l R cs D ox A call → 1 ≤ R.frames ∧ 20 ≤ R.locals := by
  intro l R cs D ox A call h
  obtain ⟨h1, h2, -⟩ := h
  unfold ev_fr at h1
  unfold ev_lw at h2
  exact ⟨by omega, by omega⟩
/-- the surroundings at a callee's start -/
theorem ev_Sr.to {D : va_G} {cl : List vw_C} {cs : Nat → ClassId} {ox : Nat → Nat} {Tn : List Cond} {Tq : EQ} {A : Nat → Prop} {s U : State} {H : Heap} {locs : List Loc} (h : ev_Sr D cl cs ox Tn Tq A s) (hH : U.heap = H) (hW : s.WarmedH U.vm) (hS : va_S A s.heap H locs) : ev_Sr D cl cs ox Tn Tq A U := by
  obtain ⟨h1, h2, h3, h4, h5, h6, h7, h8⟩ := h
  have hq : ∀ a : Nat, a < s.heap.size → ¬ A a → U.heap[a]? = s.heap[a]? := fun a z1 z2 => by rw [hH]; exact hS.2.1 a z1 z2
  refine ⟨va_K.moved hW.alike h1, fun q hq => h2 q (Nat.le_trans hS.1 (by rw [← hH]; exact hq)), fun w hw => ?_, vx_Zq.kept (vx_Zq.moved hW.alike h4) hq, vx_Zq.kept (vx_Zq.moved hW.alike h5) hq, fun q hq => ?_, fun q hq => va_Nc.moved hW.alike (h7 q hq), h8.moved hW.alike (by rw [hH]; exact hS.1) hq⟩
  · obtain ⟨n1, n2⟩ := h3 w hw
    refine ⟨n1, ?_⟩
    cases w with
    | fieldLinkNest a i b n d hh => exact va_Nw.warmF hW n2
    | methodLinkNest a i x hh => exact va_Nw.warmM hW n2
    | declares x => exact va_Nw.warmD hW n2
    | castable a b => exact va_Nw.warmC hW n2
    | _ => cases n1
  · obtain ⟨sa, z⟩ := h6 q hq
    exact ⟨sa, vk_R.warm hW z⟩
theorem ev_Sr.same {D : va_G} {cl : List vw_C} {cs : Nat → ClassId} {ox : Nat → Nat} {Tn : List Cond} {Tq : EQ} {A : Nat → Prop} {s U : State} (h : ev_Sr D cl cs ox Tn Tq A s) (hH : U.heap = s.heap) (hv : U.vm = s.vm) : ev_Sr D cl cs ox Tn Tq A U := by
  obtain ⟨h1, h2, h3, h4, h5, h6, h7, h8⟩ := h
  have ha : s.vm.Alike U.vm := by rw [hv]; exact Vm.Alike.refl _
  refine ⟨va_K.moved ha h1, fun q hq => h2 q (by rw [← hH]; exact hq), fun w hw => ?_, by rw [hH]; exact vx_Zq.moved ha h4, by rw [hH]; exact vx_Zq.moved ha h5, fun q hq => ?_, fun q hq => va_Nc.moved ha (h7 q hq), h8.moved ha (by rw [hH]; exact Nat.le_refl _) (fun a _ _ => by rw [hH])⟩
  · obtain ⟨n1, n2⟩ := h3 w hw
    exact ⟨n1, va_Nw.same (ev_nestw_on n1) hv.symm n2⟩
  · obtain ⟨sa, z⟩ := h6 q hq
    exact ⟨sa, vk_R.same hv z⟩
theorem ev_Pc.blind {D : va_G} {cl : List vw_C} {cs : Nat → ClassId} {ox : Nat → Nat} {A : Nat → Prop} {Tn : List Cond} {Tq : EQ} {al : List Nat} {h : List EC} {av : List Value} : FrameBlind (ev_Pc D cl cs ox A Tn Tq al h av) := by
  intro a U g mk q
  obtain ⟨q1, q2, q3⟩ := q
  exact ⟨q1, q2.same (U := U.calling g mk a) rfl rfl, q3⟩
section EVC
variable {p : Program} {l : Launch} {e : Env} {R : Room} {s : State} {m : MethodId} {args : Array Value} {below : List Frame} {meth : Method} {c : Code} {H : Heap} {locs : List Loc} {cells slots : Nat} {Q : State → Prop}
variable {D : va_G} {cl : List vw_C} {cs : Nat → ClassId} {ox : Nat → Nat} {A : Nat → Prop} {al : List Nat} {pc : Nat} {ls : Array Slot} {st0 rest : List Value} {mc ms : Nat} {a : Array Value}
theorem ev_pre {Tn : List Cond} {Tq : EQ} {al0 : List Nat} {h : List EC} {av : List Value} (hs : ev_Sr D cl cs ox Tn Tq A s) (w : ev_Wd D cl cs ox A s.heap al0 al h H locs) (hv : ∀ v ∈ av, ev_ok h.length v) : PreS s H (ev_Pc D cl cs ox A Tn Tq al h av) (av.map (ev_rv ox al)) :=
  ⟨ev_Pc.blind, fun U hU hW => ⟨rfl, hs.to hU hW w.2.2.2.2.1, w.2.1, by rw [hU]; exact w.2.2.1, w.2.2.2.1, w.2.2.2.2.2, hv⟩⟩
theorem ev_after {v : Option Value} {h : List EC} (hr : va_Run p l e R s m args below meth c H locs cells slots mc ms (F0 m pc ls st0) rest (ev_Qc D cl cs ox A al v h a) A) (hS : va_S A s.heap H locs)
    (kk : ∀ (al' : List Nat) (H1 : Heap) (locs1 : List Loc), al <+: al' → al'.length = h.length → va_P D cl (ev_w cs ox al' h) H1 → va_D A (ev_w cs ox al' h) → va_S A s.heap H1 locs1 → ev_wf h → (∀ w ∈ v.toList, ev_ok h.length w) →
      W p l e R s m args below meth c H1 locs1 (cells + mc) (slots + ms) Q (F0 m (pc + 3) ls ((v.map (ev_rv ox al')).toList ++ rest))) : W p l e R s m args below meth c H locs cells slots Q (F0 m pc ls st0) := by
  intro T hT X
  obtain ⟨v', st₀, t, T', L, h0, X', hL, e1, e2, ⟨⟨al', q1, q2, q3, q4, q5, q6, q7⟩, hz, hk⟩, st⟩ := hr T hT X
  cases q2
  rw [h0] at hz hk
  obtain ⟨t2, a1, b1⟩ := kk al' T'.heap (locs ++ L) q1 q3 (by rw [e1]; exact q4) q5 ⟨Nat.le_trans hS.1 (by rw [e1]; exact hz), fun q h1 h2 => by rw [e1, hk q (Nat.lt_of_lt_of_le h1 hS.1) h2]; exact hS.2.1 q h1 h2, fun q hq => by
      rcases List.mem_append.mp hq with h | h
      · exact hS.2.2 q h
      · exact hL q h⟩ q6 q7 T' rfl X'
  exact ⟨t2, st t2 a1, b1⟩
theorem ev_afterX {E : String} {h : List EC} (hr : vx_Run p l e R s m args below meth c H locs cells slots mc ms (F0 m pc ls st0) rest (fun _ _ _ => False) (ev_XC D cl cs ox A al E h) A) (hS : va_S A s.heap H locs)
    (kk : ∀ (al' : List Nat) (H1 : Heap) (locs1 : List Loc) (ce : Cell) (q9 : Addr), al <+: al' → al'.length = h.length → va_P D cl (ev_w cs ox al' h) H1 → va_D A (ev_w cs ox al' h) → va_S A s.heap H1 locs1 → ev_wf h → H1[q9]? = some ce → ce.vm = .none → s.vm.findClass E = some ce.cls →
      vx_W p l e R s m args below meth c H1 locs1 (cells + mc) (slots + ms) Q (F0 m pc ls rest) q9) : W p l e R s m args below meth c H locs cells slots Q (F0 m pc ls st0) := by
  intro T hT X
  rcases hr T hT X with ⟨v', st₀, t, T', L, h0, X', hL, e1, e2, q, st⟩ | ⟨q9, st₀, t, T', L, E', ce, h0, X', hL, e1, e2, ⟨rfl, ⟨al', q1, q3, q4, q5, q6⟩, hz, hk⟩, hce, hcv, hcl, st⟩
  · exact q.elim
  · rw [h0] at hz hk
    obtain ⟨t2, a1, b1⟩ := kk al' T'.heap (locs ++ L) ce q9 q1 q3 (by rw [e1]; exact q4) q5 ⟨Nat.le_trans hS.1 (by rw [e1]; exact hz), fun q h1 h2 => by rw [e1, hk q (Nat.lt_of_lt_of_le h1 hS.1) h2]; exact hS.2.1 q h1 h2, fun q hq => by
      rcases List.mem_append.mp hq with h | h
      · exact hS.2.2 q h
      · exact hL q h⟩ q6 (by rw [e1]; exact hce) hcv hcl T' rfl X'
    exact ⟨t2, st.trans a1, b1⟩
end EVC
/-- is the first argument an object of class c? -/
def ev_recv (ci : Option Nat) (av : List Value) (h : List EC) : Bool := match ci with
  | none => true
  | some c => match av with
    | .ref b :: _ => (match h[b]? with
      | some (.inr c', _) => Nat.beq c' c
      | _ => false)
    | _ => false
/-- a call of method y with N values (its object, if there is one, among them); thr: what it throws goes on -/
def a_inv (thr : Bool) (y N : Nat) (ci : Option Nat) : EA := fun call k f hs =>
  bif Nat.ble N f.2.2.length && (Nat.ble (((f.2.2.drop N).map fun v => v.category).sum) 8 && ev_recv ci (f.2.2.take N).reverse hs.1) then
    match call y (f.2.2.take N).reverse hs with
    | some (.inl v, h1) => k (f.1 + 3, f.2.1, v.toList ++ f.2.2.drop N) h1
    | some (.inr E, h1) => bif thr then some (.inr E, h1) else none
    | none => none
  else none
/-- one instruction's way of calling y: given the callee's contract, the call runs -/
def ev_Run (thr : Bool) (cc : ByteArray) (nL : Nat) (hh : List (Nat × Nat × Nat × Nat)) (own : String) (Ts Tn : List Cond) (Tq : EQ) (cl : List vw_C) (mt : EM) (y N : Nat) (ci : Option Nat) (pc : Nat) : Prop :=
  ∀ (p : Program) (l : Launch) (e : Env) (R : Room) (s : State) (m : MethodId) (args : Array Value) (below : List Frame) (meth : Method) (c : Code) (D : va_G) (cs : Nat → ClassId) (ox : Nat → Nat) (A : Nat → Prop) (k0 n0 ck cn : Nat),
    ev_Cx p R s m args c cc nL hh own Ts Tn Tq D cl cs ox A k0 n0 ck cn →
    ∀ (H : Heap) (locs : List Loc) (ls : Array Slot) (cells slots mc ms : Nat) (Pc : Array Value → State → Prop) (Qc : Array Value → State → Outcome → State → Prop) (XC : String → State → State → Prop) (rm : Room) (av rest : List Value),
      av.length = N → ls.size = nL → (rest.map fun v => v.category).sum ≤ 8 → rm.cells = mc → rm.slots = ms → rm.frames + 1 ≤ R.frames → 36 + rm.locals ≤ R.locals → PreS s H Pc av →
      (∀ c, ci = some c → ∃ (b : Nat) (as : List Value) (q : vw_C) (cell : Cell), av = .ref b :: as ∧ cl[c]? = some q ∧ H[b]? = some cell ∧ cell.vm.isStatics = false ∧ s.vm.findClass q.1 = some cell.cls) →
      cells + mc ≤ R.cells ∧ slots + ms ≤ R.slots →
      (Met l (mt y).1 (ev_ws mt Ts y) rm Pc Qc mc ms A → va_Run p l e R s m args below meth c H locs cells slots mc ms (F0 m pc ls (av.reverse ++ rest)) rest (Qc av.toArray) A) ∧
      (thr = true → vx_Met l (mt y).1 (ev_ws mt Ts y) rm Pc Qc XC mc ms A → vx_Run p l e R s m args below meth c H locs cells slots mc ms (F0 m pc ls (av.reverse ++ rest)) rest (Qc av.toArray) XC A)
theorem ok_inv {cc : ByteArray} {nL : Nat} {hh : List (Nat × Nat × Nat × Nat)} {own : String} {Ts Tn : List Cond} {Tq : EQ} {cl : List vw_C} {isI : Bool} {mt : EM} {d pc y N : Nat} {ci : Option Nat} {thr : Bool} (hrun : ev_Run thr cc nL hh own Ts Tn Tq cl mt y N ci pc) :
    ev_Ok cc nL hh own Ts Tn Tq cl isI (ev_CO mt Ts Tn Tq cl d) pc (a_inv thr y N ci) := by
  intro p l e R s m args below meth c Q D cs ox A al0 k0 n0 call kont f hs o hs' cx hI hC hR hT hpc h hk
  obtain ⟨pc', lo, st⟩ := f
  cases hpc
  have h : (bif Nat.ble N st.length && (Nat.ble (((st.drop N).map fun v => v.category).sum) 8 && ev_recv ci (st.take N).reverse hs.1) then
    (match call y (st.take N).reverse hs with
    | some (.inl v, h1) => kont (pc' + 3, lo, v.toList ++ st.drop N) h1
    | some (.inr E, h1) => bif thr then some (.inr E, h1) else none
    | none => none) else none) = some (o, hs') := h
  cases hb : (Nat.ble N st.length && (Nat.ble (((st.drop N).map fun v => v.category).sum) 8 && ev_recv ci (st.take N).reverse hs.1)) with
  | false => rw [hb] at h; cases h
  | true =>
    rw [hb] at h
    dsimp only [cond_true] at h
    obtain ⟨b1, b2⟩ := Bool.and_eq_true_iff.mp hb
    obtain ⟨b2, b3⟩ := Bool.and_eq_true_iff.mp b2
    have n1 : N ≤ st.length := Nat.le_of_ble_eq_true b1
    have n2 : ((st.drop N).map fun v => v.category).sum ≤ 8 := Nat.le_of_ble_eq_true b2
    obtain ⟨r1, r2, hM⟩ := hC
    have hst : ∀ al : List Nat, st.map (ev_rv ox al) = ((st.take N).reverse.map (ev_rv ox al)).reverse ++ (st.drop N).map (ev_rv ox al) := fun al => by
      rw [List.map_reverse, List.reverse_reverse, ← List.map_append, List.take_append_drop]
    have hlen : (st.take N).reverse.length = N := by rw [List.length_reverse, List.length_take]; omega
    have hrecv : ∀ (al : List Nat) (H : Heap), al.length = hs.1.length → va_P D cl (ev_w cs ox al hs.1) H → ∀ c, ci = some c → ∃ (b : Nat) (as : List Value) (q : vw_C) (cell : Cell), (st.take N).reverse.map (ev_rv ox al) = .ref b :: as ∧ cl[c]? = some q ∧ H[b]? = some cell ∧ cell.vm.isStatics = false ∧ s.vm.findClass q.1 = some cell.cls := by
      intro al H hn hP c0 hc0
      subst hc0
      unfold ev_recv at b3
      match hav : (st.take N).reverse, b3 with
      | .ref b :: as, b3 =>
        dsimp only at b3
        cases hq : hs.1[b]? with
        | none => rw [hq] at b3; cases b3
        | some e0 =>
          rw [hq] at b3
          obtain ⟨t0, fs⟩ := e0
          cases t0 with
          | inl t => cases b3
          | inr c' =>
            cases Nat.eq_of_beq_eq_true b3
            have he := ev_w_get (cs := cs) (ox := ox) hn hq
            obtain ⟨r, h1, -⟩ := hP b _ he
            obtain ⟨cell, z1, z2, z3⟩ := va_recv cx.2.1.1 hP h1 he
            exact ⟨al.getD b 0, as.map (ev_rv ox al), r, cell, rfl, h1, z1, z2, z3⟩
    cases hq : call y (st.take N).reverse hs with
    | none => rw [hq] at h; cases h
    | some z =>
      rw [hq] at h
      obtain ⟨z, h1⟩ := z
      obtain ⟨m1, m2, m3⟩ := hM _ _ _ _ _ hq
      cases z with
      | inl v =>
        dsimp only at h
        intro k1 k2
        obtain ⟨g1, g2, g3⟩ := hk _ _ h (Nat.le_trans k1 m1) (Nat.le_trans k2 m2)
        refine ⟨Nat.le_trans m1 g1, Nat.le_trans m2 g2, fun al H locs ls w wl wv hl => ?_⟩
        have hM3 : Met l (mt y).1 (ev_ws mt Ts y) _ _ _ _ _ A := m3 al
        have hcl := cx.2.2.2
        have hr := (hrun p l e R s m args below meth c D cs ox A k0 n0 _ _ cx H locs ls (hs.2.1 - k0) (hs.2.2 - n0) (h1.2.1 - hs.2.1) (h1.2.2 - hs.2.2) _ _ (fun _ _ _ => False) _ ((st.take N).reverse.map (ev_rv ox al)) ((st.drop N).map (ev_rv ox al)) (by rw [List.length_map]; exact hlen) hl.1 (by rw [ev_cats]; exact n2) rfl rfl r1 r2
          (ev_pre cx.2.1 w (fun v hv => wv v (List.mem_of_mem_take (List.mem_reverse.mp hv)))) (hrecv al H w.2.1 w.2.2.1) (by omega)).1 hM3
        show W p l e R s m args below meth c H locs (hs.2.1 - k0) (hs.2.2 - n0) Q (F0 m pc' ls (st.map (ev_rv ox al)))
        rw [hst al]
        refine ev_after hr w.2.2.2.2.1 (fun al' H1 locs1 q1 q2 q3 q4 q5 q6 q7 => ?_)
        obtain ⟨be, rfl⟩ := q1
        have hmono : hs.1.length ≤ h1.1.length := by rw [← w.2.1, ← q2, List.length_append]; exact Nat.le_add_right _ _
        have k3 := g3 (al ++ be) H1 locs1 ls ⟨List.IsPrefix.trans w.1 (List.prefix_append _ _), q2, q3, q4, q5, q6⟩ (fun q hq => ev_ok_mono hmono (wl q hq)) (fun v' hv' => by
          rcases List.mem_append.mp hv' with z | z
          · exact q7 v' z
          · exact ev_ok_mono hmono (wv v' (List.mem_of_mem_drop z))) (by rw [ev_loc_app w.2.1 wl]; exact hl)
        rw [show h1.2.1 - k0 = hs.2.1 - k0 + (h1.2.1 - hs.2.1) by omega, show h1.2.2 - n0 = hs.2.2 - n0 + (h1.2.2 - hs.2.2) by omega, List.map_append, ev_stk_app w.2.1 (fun v hv => wv v (List.mem_of_mem_drop hv))] at k3
        have hvl : (v.map (ev_rv ox (al ++ be))).toList = v.toList.map (ev_rv ox (al ++ be)) := by cases v <;> rfl
        rw [hvl]
        exact k3
      | inr E =>
        dsimp only at h
        cases ht : thr with
        | false => rw [ht] at h; cases h
        | true =>
          rw [ht] at h
          cases h
          intro k1 k2
          refine ⟨m1, m2, fun al H locs ls w wl wv hl => ?_⟩
          have hM3 : vx_Met l (mt y).1 (ev_ws mt Ts y) _ _ _ _ _ _ A := m3 al
          have hr := (hrun p l e R s m args below meth c D cs ox A k0 n0 _ _ cx H locs ls (hs.2.1 - k0) (hs.2.2 - n0) (hs'.2.1 - hs.2.1) (hs'.2.2 - hs.2.2) _ _ _ _ ((st.take N).reverse.map (ev_rv ox al)) ((st.drop N).map (ev_rv ox al)) (by rw [List.length_map]; exact hlen) hl.1 (by rw [ev_cats]; exact n2) rfl rfl r1 r2
            (ev_pre cx.2.1 w (fun v hv => wv v (List.mem_of_mem_take (List.mem_reverse.mp hv)))) (hrecv al H w.2.1 w.2.2.1) (by have := cx.2.2.2; omega)).2 ht hM3
          obtain ⟨t1, t2, t3, Qc, XC, rfl, t5⟩ := hT E rfl
          show W p l e R s m args below meth c H locs (hs.2.1 - k0) (hs.2.2 - n0) _ (F0 m pc' ls (st.map (ev_rv ox al)))
          rw [hst al]
          refine ev_afterX hr w.2.2.2.2.1 (fun al' H1 locs1 ce q9 q1 q2 q3 q4 q5 q6 hce hcv hcl => ?_)
          exact vx_out (fun x hx => (t3 x hx).elim) t2 hce hcv hcl (fun t ht ha => t5 al' H1 locs1 ⟨List.IsPrefix.trans w.1 q1, q2, q3, q4, q5, q6⟩ t ht ha) q5.2.2 (by omega) (by omega)

/-- the words of a method's own list are good ones, and the callee's code stands among them -/
theorem ev_good {mt : EM} {Ts : List Cond} {y : Nat} (hz : (mt y).2.2.2.2 = []) (hg : ∀ w ∈ Ts, goodWord w = true) (hc : Cond.code (mt y).1 (mt y).2.1 (mt y).2.2.1 (mt y).2.2.2.1 ∈ Ts) : GoodIn Ts (ev_ws mt Ts y) := by
  intro w hw
  rw [ev_ws0 hz] at hw
  rcases List.mem_cons.mp hw with rfl | hw
  · exact ⟨hc, good_of_word (hg _ hc)⟩
  · exact ⟨hw, good_of_word (hg _ hw)⟩
theorem ev_nlen {n : Nat} {y : MethodName} (h : (parseMethodDescriptor y.desc).map (fun d => d.parameters.length) = some n) : ∀ sig, parseMethodDescriptor y.desc = some sig → n = sig.parameters.length := by
  intro sig hs
  rw [hs] at h
  exact (Option.some.inj h).symm
section EVK
variable {cc : ByteArray} {nL : Nat} {hh : List (Nat × Nat × Nat × Nat)} {own : String} {Ts Tn : List Cond} {Tq : EQ} {cl : List vw_C} {mt : EM} {y n ci index pc : Nat} {q : vw_C} {host : String}
theorem ev_cb {R : Room} {s : State} {args : Array Value} {rm : Room} {mc ms : Nat} (hts : ∀ w ∈ Ts, w.before args s = true) (hz : (mt y).2.2.2.2 = []) (hg : ∀ w ∈ Ts, goodWord w = true) (hc : Cond.code (mt y).1 (mt y).2.1 (mt y).2.2.1 (mt y).2.2.2.1 ∈ Ts) (hini : Cond.initialized (mt y).1.cls ∈ Ts) (hl : Cond.methodLink own index (mt y).1 ∈ Ts)
    (hd : (mt y).1.cls ≠ "java/lang/invoke/MethodHandle" ∧ (mt y).1.cls ≠ "java/lang/invoke/VarHandle" ∧ (parseMethodDescriptor (mt y).1.desc).map (fun d => d.parameters.length) = some n) (hL : (mt y).2.2.1 ≤ 17) (h1 : rm.cells = mc) (h2 : rm.slots = ms) (h3 : rm.frames + 1 ≤ R.frames) (h4 : 36 + rm.locals ≤ R.locals) :
    CallB R s args own index (mt y).1 (mt y).2.1 (mt y).2.2.1 (mt y).2.2.2.1 (ev_ws mt Ts y) rm mc ms n :=
  ⟨h1, h2, h3, by omega, pay_in hts (ev_good hz hg hc), by rw [ev_ws0 hz]; exact List.mem_cons_self, hts _ hc, hts _ hini, ⟨hd.1, hd.2.1⟩, ev_nlen hd.2.2, hts _ hl⟩
theorem run_V (d : decode cc pc = .ok (.invokevirtual index, 3)) (hz : (mt y).2.2.2.2 = []) (hg : ∀ w ∈ Ts, goodWord w = true) (hc : Cond.code (mt y).1 (mt y).2.1 (mt y).2.2.1 (mt y).2.2.2.1 ∈ Ts) (hini : Cond.initialized (mt y).1.cls ∈ Ts) (hl : Cond.methodLink own index (mt y).1 ∈ Ts) (hi : Cond.instanceMethod (mt y).1 ∈ Ts) (hse : Cond.selects (mt y).1.cls (mt y).1 (mt y).1 ∈ Ts)
    (hd : (mt y).1.cls ≠ "java/lang/invoke/MethodHandle" ∧ (mt y).1.cls ≠ "java/lang/invoke/VarHandle" ∧ (parseMethodDescriptor (mt y).1.desc).map (fun d => d.parameters.length) = some n) (hL : (mt y).2.2.1 ≤ 17) (hcl : cl[ci]? = some q) (hq : q.1 = (mt y).1.cls) :
    ev_Run true cc nL hh own Ts Tn Tq cl mt y (n + 1) (some ci) pc := by
  intro p l e R s m args below meth c D cs ox A k0 n0 ck cn cx H locs ls cells slots mc ms Pc Qc XC rm av rest hN hls h8 h1 h2 h3 h4 hp hr hf
  obtain ⟨b, as, q', cell, rfl, z1, z2, z3, z4⟩ := hr ci rfl
  cases Option.some.inj (z1.symm.trans hcl)
  rw [hq] at z4
  have cw : CallW R s args own (mt y).1.cls index (mt y).1 (mt y).2.1 (mt y).2.2.1 (mt y).2.2.2.1 (ev_ws mt Ts y) rm mc ms n := ⟨ev_cb cx.1.2.2.2.2 hz hg hc hini hl hd hL h1 h2 h3 h4, cx.1.2.2.2.2 _ hi, cx.1.2.2.2.2 _ hse⟩
  have hp2 : PreV s H (mt y).1.cls b Pc as := ⟨hp.1, ⟨cell, z2, z3, z4⟩, hp.2⟩
  have hst : ((Value.ref b :: as).reverse ++ rest) = as.reverse ++ .ref b :: rest := by rw [List.reverse_cons, List.append_assoc]; rfl
  have hn : as.length = n := Nat.succ.inj hN
  rw [hst]
  exact ⟨fun hM => va_runV cx.1 hM cw hp2 rfl hn hls rfl (lv_room h8) d hf, fun _ hM => vx_runV cx.1 hM cw hp2 rfl hn hls rfl (lv_room h8) d hf⟩
theorem run_S (d : decode cc pc = .ok (.invokestatic index, 3)) (hz : (mt y).2.2.2.2 = []) (hg : ∀ w ∈ Ts, goodWord w = true) (hc : Cond.code (mt y).1 (mt y).2.1 (mt y).2.2.1 (mt y).2.2.2.1 ∈ Ts) (hini : Cond.initialized (mt y).1.cls ∈ Ts) (hl : Cond.methodLink own index (mt y).1 ∈ Ts) (hi : Cond.static (mt y).1 ∈ Ts)
    (hd : (mt y).1.cls ≠ "java/lang/invoke/MethodHandle" ∧ (mt y).1.cls ≠ "java/lang/invoke/VarHandle" ∧ (parseMethodDescriptor (mt y).1.desc).map (fun d => d.parameters.length) = some n) (hL : (mt y).2.2.1 ≤ 17) :
    ev_Run true cc nL hh own Ts Tn Tq cl mt y n none pc := by
  intro p l e R s m args below meth c D cs ox A k0 n0 ck cn cx H locs ls cells slots mc ms Pc Qc XC rm av rest hN hls h8 h1 h2 h3 h4 hp hr hf
  have cw := ev_cb (R := R) (rm := rm) (mc := mc) (ms := ms) (s := s) (args := args) cx.1.2.2.2.2 hz hg hc hini hl hd hL h1 h2 h3 h4
  exact ⟨fun hM => va_runS cx.1 hM ⟨cw, cx.1.2.2.2.2 _ hi⟩ hp rfl hN hls rfl (lv_room h8) d hf, fun _ hM => vx_runS cx.1 hM ⟨cw, cx.1.2.2.2.2 _ hi⟩ hp rfl hN hls rfl (lv_room h8) d hf⟩
theorem run_I (d : decode cc pc = .ok (.invokespecial index, 3)) (hz : (mt y).2.2.2.2 = []) (hg : ∀ w ∈ Ts, goodWord w = true) (hc : Cond.code (mt y).1 (mt y).2.1 (mt y).2.2.1 (mt y).2.2.2.1 ∈ Ts) (hini : Cond.initialized (mt y).1.cls ∈ Ts) (hl : Cond.methodLink own index (mt y).1 ∈ Ts) (hi : Cond.instanceMethod (mt y).1 ∈ Ts) (hy : (mt y).1.name = "<init>") (hre : (mt y).2.2.2.1 = none)
    (hd : (mt y).1.cls ≠ "java/lang/invoke/MethodHandle" ∧ (mt y).1.cls ≠ "java/lang/invoke/VarHandle" ∧ (parseMethodDescriptor (mt y).1.desc).map (fun d => d.parameters.length) = some n) (hL : (mt y).2.2.1 ≤ 17) :
    ev_Run false cc nL hh own Ts Tn Tq cl mt y (n + 1) (some ci) pc := by
  intro p l e R s m args below meth c D cs ox A k0 n0 ck cn cx H locs ls cells slots mc ms Pc Qc XC rm av rest hN hls h8 h1 h2 h3 h4 hp hr hf
  obtain ⟨b, as, q', cell, rfl, z1, z2, z3, z4⟩ := hr ci rfl
  have cw := ev_cb (R := R) (rm := rm) (mc := mc) (ms := ms) (s := s) (args := args) cx.1.2.2.2.2 hz hg hc hini hl hd hL h1 h2 h3 h4
  rw [hre] at cw
  have hst : ((Value.ref b :: as).reverse ++ rest) = as.reverse ++ .ref b :: rest := by rw [List.reverse_cons, List.append_assoc]; rfl
  have hn : as.length = n := Nat.succ.inj hN
  rw [hst]
  exact ⟨fun hM => va_runI cx.1 hM ⟨cw, hy, cx.1.2.2.2.2 _ hi⟩ hp rfl hn hls rfl (lv_room h8) d hf, fun h => by cases h⟩
theorem ev_cn {R : Room} {s : State} {args : Array Value} {rm : Room} {mc ms : Nat} (hts : ∀ w ∈ Ts, w.before args s = true) (hNw : ∀ w ∈ Tn, ev_nestw w = true ∧ va_Nw w s) (hz : (mt y).2.2.2.2 = []) (hg : ∀ w ∈ Ts, goodWord w = true) (hc : Cond.code (mt y).1 (mt y).2.1 (mt y).2.2.1 (mt y).2.2.2.1 ∈ Ts) (hini : Cond.initialized (mt y).1.cls ∈ Ts) (hl : Cond.methodLinkNest own index (mt y).1 host ∈ Tn)
    (hd : (mt y).1.cls ≠ "java/lang/invoke/MethodHandle" ∧ (mt y).1.cls ≠ "java/lang/invoke/VarHandle" ∧ (parseMethodDescriptor (mt y).1.desc).map (fun d => d.parameters.length) = some n) (hL : (mt y).2.2.1 ≤ 17) (h1 : rm.cells = mc) (h2 : rm.slots = ms) (h3 : rm.frames + 1 ≤ R.frames) (h4 : 36 + rm.locals ≤ R.locals) :
    va_CN R s args own index (mt y).1 host (mt y).2.1 (mt y).2.2.1 (mt y).2.2.2.1 (ev_ws mt Ts y) rm mc ms n :=
  ⟨⟨h1, h2, h3, by omega, pay_in hts (ev_good hz hg hc), by rw [ev_ws0 hz]; exact List.mem_cons_self⟩, hts _ hc, hts _ hini, ⟨hd.1, hd.2.1⟩, ev_nlen hd.2.2, va_Nw.use rfl (hNw _ hl).2⟩
theorem run_VN (d : decode cc pc = .ok (.invokevirtual index, 3)) (hz : (mt y).2.2.2.2 = []) (hg : ∀ w ∈ Ts, goodWord w = true) (hc : Cond.code (mt y).1 (mt y).2.1 (mt y).2.2.1 (mt y).2.2.2.1 ∈ Ts) (hini : Cond.initialized (mt y).1.cls ∈ Ts) (hl : Cond.methodLinkNest own index (mt y).1 host ∈ Tn) (hi : Cond.instanceMethod (mt y).1 ∈ Ts) (hse : Cond.selects (mt y).1.cls (mt y).1 (mt y).1 ∈ Ts)
    (hd : (mt y).1.cls ≠ "java/lang/invoke/MethodHandle" ∧ (mt y).1.cls ≠ "java/lang/invoke/VarHandle" ∧ (parseMethodDescriptor (mt y).1.desc).map (fun d => d.parameters.length) = some n) (hL : (mt y).2.2.1 ≤ 17) (hcl : cl[ci]? = some q) (hq : q.1 = (mt y).1.cls) :
    ev_Run false cc nL hh own Ts Tn Tq cl mt y (n + 1) (some ci) pc := by
  intro p l e R s m args below meth c D cs ox A k0 n0 ck cn cx H locs ls cells slots mc ms Pc Qc XC rm av rest hN hls h8 h1 h2 h3 h4 hp hr hf
  obtain ⟨b, as, q', cell, rfl, z1, z2, z3, z4⟩ := hr ci rfl
  cases Option.some.inj (z1.symm.trans hcl)
  rw [hq] at z4
  have cw := ev_cn (R := R) (rm := rm) (mc := mc) (ms := ms) (s := s) (args := args) cx.1.2.2.2.2 cx.2.1.2.2.1 hz hg hc hini hl hd hL h1 h2 h3 h4
  have hp2 : PreV s H (mt y).1.cls b Pc as := ⟨hp.1, ⟨cell, z2, z3, z4⟩, hp.2⟩
  have hst : ((Value.ref b :: as).reverse ++ rest) = as.reverse ++ .ref b :: rest := by rw [List.reverse_cons, List.append_assoc]; rfl
  have hn : as.length = n := Nat.succ.inj hN
  rw [hst]
  exact ⟨fun hM => va_runVN cx.1 hM ⟨cw, cx.1.2.2.2.2 _ hi, cx.1.2.2.2.2 _ hse⟩ hp2 rfl hn hls rfl (lv_room h8) d hf, fun h => by cases h⟩
theorem run_SN (d : decode cc pc = .ok (.invokestatic index, 3)) (hz : (mt y).2.2.2.2 = []) (hg : ∀ w ∈ Ts, goodWord w = true) (hc : Cond.code (mt y).1 (mt y).2.1 (mt y).2.2.1 (mt y).2.2.2.1 ∈ Ts) (hini : Cond.initialized (mt y).1.cls ∈ Ts) (hl : Cond.methodLinkNest own index (mt y).1 host ∈ Tn) (hi : Cond.static (mt y).1 ∈ Ts)
    (hd : (mt y).1.cls ≠ "java/lang/invoke/MethodHandle" ∧ (mt y).1.cls ≠ "java/lang/invoke/VarHandle" ∧ (parseMethodDescriptor (mt y).1.desc).map (fun d => d.parameters.length) = some n) (hL : (mt y).2.2.1 ≤ 17) :
    ev_Run false cc nL hh own Ts Tn Tq cl mt y n none pc := by
  intro p l e R s m args below meth c D cs ox A k0 n0 ck cn cx H locs ls cells slots mc ms Pc Qc XC rm av rest hN hls h8 h1 h2 h3 h4 hp hr hf
  have cw := ev_cn (R := R) (rm := rm) (mc := mc) (ms := ms) (s := s) (args := args) cx.1.2.2.2.2 cx.2.1.2.2.1 hz hg hc hini hl hd hL h1 h2 h3 h4
  exact ⟨fun hM => va_runSN cx.1 hM ⟨cw, cx.1.2.2.2.2 _ hi, trivial⟩ hp rfl hN hls rfl (lv_room h8) d hf, fun h => by cases h⟩
theorem run_IN (d : decode cc pc = .ok (.invokespecial index, 3)) (hz : (mt y).2.2.2.2 = []) (hg : ∀ w ∈ Ts, goodWord w = true) (hc : Cond.code (mt y).1 (mt y).2.1 (mt y).2.2.1 (mt y).2.2.2.1 ∈ Ts) (hini : Cond.initialized (mt y).1.cls ∈ Ts) (hl : Cond.methodLinkNest own index (mt y).1 host ∈ Tn) (hi : Cond.instanceMethod (mt y).1 ∈ Ts) (hy : (mt y).1.name = "<init>") (hre : (mt y).2.2.2.1 = none)
    (hd : (mt y).1.cls ≠ "java/lang/invoke/MethodHandle" ∧ (mt y).1.cls ≠ "java/lang/invoke/VarHandle" ∧ (parseMethodDescriptor (mt y).1.desc).map (fun d => d.parameters.length) = some n) (hL : (mt y).2.2.1 ≤ 17) :
    ev_Run false cc nL hh own Ts Tn Tq cl mt y (n + 1) (some ci) pc := by
  intro p l e R s m args below meth c D cs ox A k0 n0 ck cn cx H locs ls cells slots mc ms Pc Qc XC rm av rest hN hls h8 h1 h2 h3 h4 hp hr hf
  obtain ⟨b, as, q', cell, rfl, z1, z2, z3, z4⟩ := hr ci rfl
  have cw := ev_cn (R := R) (rm := rm) (mc := mc) (ms := ms) (s := s) (args := args) cx.1.2.2.2.2 cx.2.1.2.2.1 hz hg hc hini hl hd hL h1 h2 h3 h4
  rw [hre] at cw
  have hst : ((Value.ref b :: as).reverse ++ rest) = as.reverse ++ .ref b :: rest := by rw [List.reverse_cons, List.append_assoc]; rfl
  have hn : as.length = n := Nat.succ.inj hN
  rw [hst]
  exact ⟨fun hM => va_runIN cx.1 hM ⟨cw, hy, cx.1.2.2.2.2 _ hi⟩ hp rfl hn hls rfl (lv_room h8) d hf, fun h => by cases h⟩
end EVK
/-! a method's code: a tree over the program counters; its run, with fuel -/
def a_no : EA := fun _ _ _ _ => none
def t_n (k : Nat) (a b : Nat → EA) : Nat → EA := fun pc => bif Nat.ble k pc then b pc else a pc
def t_l (k : Nat) (a : EA) : Nat → EA := fun pc => bif Nat.beq pc k then a else a_no
noncomputable def ev_run (code : Nat → EA) (call : ECall) (n : Nat) : EK := Nat.rec (motive := fun _ => EK) (fun _ _ => none) (fun _ ih f hs => code f.1 call ih f hs) n
section EVT
variable {cc : ByteArray} {nL : Nat} {hh : List (Nat × Nat × Nat × Nat)} {own : String} {Ts Tn : List Cond} {Tq : EQ} {cl : List vw_C} {isI : Bool} {CO : Launch → Room → (Nat → ClassId) → va_G → (Nat → Nat) → (Nat → Prop) → ECall → Prop}
theorem ok_no {pc : Nat} : ev_Ok cc nL hh own Ts Tn Tq cl isI CO pc a_no := by
  intro p l e R s m args below meth c Q D cs ox A al0 k0 n0 call kont f hs o hs' cx hI hC hR hT hpc h hk
  cases h
theorem ok_t_l {k : Nat} {a : EA} (h : ev_Ok cc nL hh own Ts Tn Tq cl isI CO k a) : ∀ pc, ev_Ok cc nL hh own Ts Tn Tq cl isI CO pc (t_l k a pc) := by
  intro pc
  unfold t_l
  cases hq : Nat.beq pc k with
  | true => cases Nat.eq_of_beq_eq_true hq; exact h
  | false => exact ok_no
theorem ok_t_n {k : Nat} {a b : Nat → EA} (ha : ∀ pc, ev_Ok cc nL hh own Ts Tn Tq cl isI CO pc (a pc)) (hb : ∀ pc, ev_Ok cc nL hh own Ts Tn Tq cl isI CO pc (b pc)) : ∀ pc, ev_Ok cc nL hh own Ts Tn Tq cl isI CO pc (t_n k a b pc) := by
  intro pc
  unfold t_n
  cases hq : Nat.ble k pc with
  | true => exact hb pc
  | false => exact ha pc
theorem ev_run_ok {code : Nat → EA} (hcode : ∀ pc, ev_Ok cc nL hh own Ts Tn Tq cl isI CO pc (code pc))
    {p : Program} {l : Launch} {e : Env} {R : Room} {s : State} {m : MethodId} {args : Array Value} {below : List Frame} {meth : Method} {c : Code} {Q : State → Prop} {D : va_G} {cs : Nat → ClassId} {ox : Nat → Nat} {A : Nat → Prop} {al0 : List Nat} {k0 n0 : Nat} {call : ECall} {o : Option Value ⊕ String} {hs' : EH}
    (cx : ev_Cx p R s m args c cc nL hh own Ts Tn Tq D cl cs ox A k0 n0 hs'.2.1 hs'.2.2) (hI : isI = true → meth.name = "<init>") (hC : CO l R cs D ox A call)
    (hR : ∀ v, o = .inl v → ev_Rt p l e R s m args below meth c Q cc D cl cs ox A al0 k0 n0 v hs') (hT : ∀ E, o = .inr E → ev_Th l s args below meth c Q D cl cs ox A al0 k0 n0 E hs') :
    ∀ (n : Nat) (f : EF) (hs : EH), ev_run code call n f hs = some (o, hs') → ev_G p l e R s m args below meth c Q D cl cs ox A al0 nL k0 n0 hs'.2.1 hs'.2.2 f hs := by
  intro n
  induction n with
  | zero => intro f hs h; cases h
  | succ n ih =>
    intro f hs h
    exact hcode f.1 p l e R s m args below meth c Q D cs ox A al0 k0 n0 call (ev_run code call n) f hs o hs' cx hI hC hR hT rfl h (fun f1 h1 h2 => ih f1 h1 h2)
end EVT
