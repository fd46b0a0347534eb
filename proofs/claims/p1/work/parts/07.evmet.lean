/-! EV: throws; a whole method's contract out of its run; the depth. -/
def a_throw (E : String) : EA := fun _ _ f hs => bif Nat.ble ((f.2.2.map fun v => v.category).sum) 8 then some (.inr E, hs.1, hs.2.1 + 1, hs.2.2 + 6) else none
theorem ok_throwS {cc : ByteArray} {nL : Nat} {hh : List (Nat × Nat × Nat × Nat)} {own : String} {Ts Tn : List Cond} {Tq : EQ} {cl : List vw_C} {isI : Bool} {mt : EM} {d pc ik is ic : Nat} {cls text : String} {names : List String}
    (d0 : decode cc pc = .ok (.new ik, 3)) (d3 : decode cc (pc + 3) = .ok (.dup, 1)) (d4 : decode cc (pc + 4) = .ok (.ldc is, 2)) (d6 : decode cc (pc + 6) = .ok (.invokespecial ic, 3)) (d9 : decode cc (pc + 9) = .ok (.athrow, 1))
    (hcls : Bundle.fit cls = true) (hnames : ∀ n ∈ names, Bundle.fit n = true) (hn : names.length ≤ 3) (hk : Cond.classLink own ik cls ∈ Ts) (hini : Cond.initialized cls ∈ Ts) (hstr : (own, is, text) ∈ Tq.1) (hat : ∀ w ∈ vx_atS own ic cls names, w ∈ Ts ∨ w ∈ Tn)
    (hgood : ∀ w ∈ Cond.classLink own ik cls :: Cond.initialized cls :: vx_atS own ic cls names, vx_ot w = true) : ev_Ok cc nL hh own Ts Tn Tq cl isI (ev_CO mt Ts Tn Tq cl d) pc (a_throw cls) := by
  intro p l e R s m args below meth c Q D cs ox A al0 k0 n0 call kont f hs o hs' cx hI hC hR hT hpc h hk2
  obtain ⟨pc', lo, st⟩ := f
  cases hpc
  have h : (bif Nat.ble ((st.map fun v => v.category).sum) 8 then some (Sum.inr (α := Option Value) cls, hs.1, hs.2.1 + 1, hs.2.2 + 6) else none) = some (o, hs') := h
  cases hb2 : Nat.ble ((st.map fun v => v.category).sum) 8 with
  | false => rw [hb2] at h; cases h
  | true =>
    rw [hb2] at h
    cases h
    obtain ⟨⟨hx, hb, hml, hown, hts⟩, ⟨hKK, hA, hNw, hZU, hZS, hTq, hNc⟩, hEx, hRc, hRs⟩ := cx
    obtain ⟨t1, t2, t3, Qc, XC, rfl, t5⟩ := hT cls rfl
    obtain ⟨sa, hsa⟩ := hTq _ hstr
    obtain ⟨r1, r2, -⟩ := hC
    unfold ev_fr at r1
    unfold ev_lw at r2
    have n8 : (st.map fun v => v.category).sum ≤ 8 := Nat.le_of_ble_eq_true hb2
    intro h1 h2
    dsimp only at hRc hRs
    refine ⟨Nat.le_succ _, Nat.le_add_right _ _, fun al H locs ls w wl wv hl => ?_⟩
    have n8' : ((st.map (ev_rv ox al)).map fun v => v.category).sum ≤ 8 := by rw [ev_cats]; exact n8
    show W p l e R s m args below meth c H locs (hs.2.1 - k0) (hs.2.2 - n0) _ (F0 m pc' ls (st.map (ev_rv ox al)))
    refine vx_throwS hx hb t1 hown hcls hnames (hts _ hk) (hts _ hini) hsa (fun w hw => ?_) hgood hZU hZS w.2.2.2.2.1 (hl.1.trans hml.symm) d0 d3 d4 d6 d9 (fun x hx => (t3 x hx).elim) (by omega) (by omega) (by omega) (by omega) t2 (fun t ha hz hq => ?_) w.2.2.2.2.1.2.2 (by dsimp only; omega) (by dsimp only; omega)
    · rcases hat w hw with z | z
      · exact hts w z
      · exact va_Nw.use (ev_nestw_on (hNw w z).1) (hNw w z).2
    · have hS' := w.2.2.2.2.1
      refine t5 al t.heap locs ⟨w.1, w.2.1, va_P.kept w.2.2.1 (fun k q hk => hq q.1 ((w.2.2.1 k q hk).lt)), w.2.2.2.1, ⟨Nat.le_trans hS'.1 hz, fun q q1 q2 => ?_, hS'.2.2⟩, w.2.2.2.2.2⟩ t rfl ha
      rw [hq q (Nat.lt_of_lt_of_le q1 hS'.1)]
      exact hS'.2.1 q q1 q2
theorem ok_throwSW {cc : ByteArray} {nL : Nat} {hh : List (Nat × Nat × Nat × Nat)} {own : String} {Ts Tn : List Cond} {Tq : EQ} {cl : List vw_C} {isI : Bool} {mt : EM} {d pc ik is ic : Nat} {cls text : String} {names : List String}
    (d0 : decode cc pc = .ok (.new ik, 3)) (d3 : decode cc (pc + 3) = .ok (.dup, 1)) (d4 : decode cc (pc + 4) = .ok (.ldc_w is, 3)) (d7 : decode cc (pc + 7) = .ok (.invokespecial ic, 3)) (d10 : decode cc (pc + 10) = .ok (.athrow, 1))
    (hcls : Bundle.fit cls = true) (hnames : ∀ n ∈ names, Bundle.fit n = true) (hn : names.length ≤ 3) (hk : Cond.classLink own ik cls ∈ Ts) (hini : Cond.initialized cls ∈ Ts) (hstr : (own, is, text) ∈ Tq.1) (hat : ∀ w ∈ vx_atS own ic cls names, w ∈ Ts ∨ w ∈ Tn)
    (hgood : ∀ w ∈ Cond.classLink own ik cls :: Cond.initialized cls :: vx_atS own ic cls names, vx_ot w = true) : ev_Ok cc nL hh own Ts Tn Tq cl isI (ev_CO mt Ts Tn Tq cl d) pc (a_throw cls) := by
  intro p l e R s m args below meth c Q D cs ox A al0 k0 n0 call kont f hs o hs' cx hI hC hR hT hpc h hk2
  obtain ⟨pc', lo, st⟩ := f
  cases hpc
  have h : (bif Nat.ble ((st.map fun v => v.category).sum) 8 then some (Sum.inr (α := Option Value) cls, hs.1, hs.2.1 + 1, hs.2.2 + 6) else none) = some (o, hs') := h
  cases hb2 : Nat.ble ((st.map fun v => v.category).sum) 8 with
  | false => rw [hb2] at h; cases h
  | true =>
    rw [hb2] at h
    cases h
    obtain ⟨⟨hx, hb, hml, hown, hts⟩, ⟨hKK, hA, hNw, hZU, hZS, hTq, hNc⟩, hEx, hRc, hRs⟩ := cx
    obtain ⟨t1, t2, t3, Qc, XC, rfl, t5⟩ := hT cls rfl
    obtain ⟨sa, hsa⟩ := hTq _ hstr
    obtain ⟨r1, r2, -⟩ := hC
    unfold ev_fr at r1
    unfold ev_lw at r2
    have n8 : (st.map fun v => v.category).sum ≤ 8 := Nat.le_of_ble_eq_true hb2
    intro h1 h2
    dsimp only at hRc hRs
    refine ⟨Nat.le_succ _, Nat.le_add_right _ _, fun al H locs ls w wl wv hl => ?_⟩
    have n8' : ((st.map (ev_rv ox al)).map fun v => v.category).sum ≤ 8 := by rw [ev_cats]; exact n8
    show W p l e R s m args below meth c H locs (hs.2.1 - k0) (hs.2.2 - n0) _ (F0 m pc' ls (st.map (ev_rv ox al)))
    refine vx_throwSW hx hb t1 hown hcls hnames (hts _ hk) (hts _ hini) hsa (fun w hw => ?_) hgood hZU hZS w.2.2.2.2.1 (hl.1.trans hml.symm) d0 d3 d4 d7 d10 (fun x hx => (t3 x hx).elim) (by omega) (by omega) (by omega) (by omega) t2 (fun t ha hz hq => ?_) w.2.2.2.2.1.2.2 (by dsimp only; omega) (by dsimp only; omega)
    · rcases hat w hw with z | z
      · exact hts w z
      · exact va_Nw.use (ev_nestw_on (hNw w z).1) (hNw w z).2
    · have hS' := w.2.2.2.2.1
      refine t5 al t.heap locs ⟨w.1, w.2.1, va_P.kept w.2.2.1 (fun k q hk => hq q.1 ((w.2.2.1 k q hk).lt)), w.2.2.2.1, ⟨Nat.le_trans hS'.1 hz, fun q q1 q2 => ?_, hS'.2.2⟩, w.2.2.2.2.2⟩ t rfl ha
      rw [hq q (Nat.lt_of_lt_of_le q1 hS'.1)]
      exact hS'.2.1 q q1 q2
/-- does the value fit what the method returns? -/
def ev_rok (ret : Option FieldType) (v : Option Value) : Bool := match ret, v with
  | none, none => true
  | some .int, some (.int _) => true
  | some .boolean, some (.int x) => decide (x = 0) || decide (x = 1)
  | some .long, some (.long _) => true
  | some .double, some (.double _) => true
  | some (.object _), some (.ref _) => true
  | some (.array _), some (.ref _) => true
  | _, _ => false
def ev_fin (ret : Option FieldType) (he : Bool) (hs : EH) (r : ER) : ER := match r with
  | some (.inl v, h1) => bif ev_rok ret v && (Nat.ble hs.2.1 h1.2.1 && Nat.ble hs.2.2 h1.2.2) then some (.inl v, h1) else none
  | some (.inr E, h1) => bif he && (Nat.ble hs.2.1 h1.2.1 && Nat.ble hs.2.2 h1.2.2) then some (.inr E, h1) else none
  | none => none
/-- calls to depth d: pg: the methods' codes; fu: the fuel of one run -/
noncomputable def ev_call (mt : EM) (pg : Nat → Nat → EA) (fu d : Nat) : ECall := Nat.rec (motive := fun _ => ECall) (fun _ _ _ => none) (fun _ ih y av hs =>
  bif Nat.ble ((av.map fun v => v.category).sum) (mt y).2.2.1 then ev_fin (mt y).2.2.2.1 ((mt y).2.2.2.2.isEmpty && plainName (mt y).1.cls) hs (ev_run (pg y) ih fu (0, lv_args 0 av, []) hs) else none) d
theorem ev_fin_spec {ret : Option FieldType} {he : Bool} {hs : EH} {r : ER} {o : Option Value ⊕ String} {h1 : EH} (h : ev_fin ret he hs r = some (o, h1)) : r = some (o, h1) ∧ hs.2.1 ≤ h1.2.1 ∧ hs.2.2 ≤ h1.2.2 ∧ (∀ v, o = .inl v → ev_rok ret v = true) ∧ ∀ E, o = .inr E → he = true := by
  unfold ev_fin at h
  match r, h with
  | some (.inl v, h2), h =>
    dsimp only at h
    cases hb : (ev_rok ret v && (Nat.ble hs.2.1 h2.2.1 && Nat.ble hs.2.2 h2.2.2)) with
    | false => rw [hb] at h; cases h
    | true =>
      rw [hb] at h
      cases h
      obtain ⟨b1, b2⟩ := Bool.and_eq_true_iff.mp hb
      obtain ⟨b2, b3⟩ := Bool.and_eq_true_iff.mp b2
      exact ⟨rfl, Nat.le_of_ble_eq_true b2, Nat.le_of_ble_eq_true b3, fun v' hv' => (by cases hv'; exact b1), fun E hE => by cases hE⟩
  | some (.inr E, h2), h =>
    dsimp only at h
    cases hb : (he && (Nat.ble hs.2.1 h2.2.1 && Nat.ble hs.2.2 h2.2.2)) with
    | false => rw [hb] at h; cases h
    | true =>
      rw [hb] at h
      cases h
      obtain ⟨b1, b2⟩ := Bool.and_eq_true_iff.mp hb
      obtain ⟨b2, b3⟩ := Bool.and_eq_true_iff.mp b2
      exact ⟨rfl, Nat.le_of_ble_eq_true b2, Nat.le_of_ble_eq_true b3, fun v' hv' => (by cases hv'), fun E hE => b1⟩
theorem ev_sl_len : ∀ (vs : List Value), (lg_sl vs).length = (vs.map fun v => v.category).sum
  | [] => rfl
  | v :: vs => by
    unfold lg_sl
    rw [List.flatMap_cons, List.length_append, List.map_cons, List.sum_cons]
    have ih := ev_sl_len vs
    unfold lg_sl at ih
    rw [ih]
    congr 1
    cases v <;> rfl
theorem ev_args_map (ox : Nat → Nat) (al : List Nat) : ∀ (vs : List Value) (i : Nat), lv_args i (vs.map (ev_rv ox al)) = (lv_args i vs).map (fun q => (q.1, ev_rv ox al q.2))
  | [], i => rfl
  | v :: vs, i => by
    show (i, ev_rv ox al v) :: lv_args (if (ev_rv ox al v).category = 2 then i + 2 else i + 1) (vs.map (ev_rv ox al)) = (i, ev_rv ox al v) :: (lv_args (if v.category = 2 then i + 2 else i + 1) vs).map _
    rw [ev_rv_cat, ev_args_map ox al vs]
theorem ev_args_ok {n : Nat} : ∀ (vs : List Value) (i : Nat), (∀ v ∈ vs, ev_ok n v) → ∀ q ∈ lv_args i vs, ev_ok n q.2
  | [], i, _, q, hq => by cases hq
  | v :: vs, i, h, q, hq => by
    rcases List.mem_cons.mp hq with rfl | hq
    · exact ev_hd h
    · exact ev_args_ok vs _ (ev_tl h) q hq
section EVM
variable {l : Launch} {mt : EM} {Tg Tn : List Cond} {Tq : EQ} {cl : List vw_C} {y d : Nat} {D : va_G} {cs : Nat → ClassId} {ox : Nat → Nat} {A : Nat → Prop} {isI : Bool} {code : Nat → EA} {call : ECall} {fu : Nat}
/-- a frame that returns meets its contract's end -/
theorem ev_rt_met {p : Program} {e : Env} {R : Room} {s : State} {m : MethodId} {args : Array Value} {below : List Frame} {meth : Method} {c : Code} {cc : ByteArray} (hx : p.tables.exec = Jvm.exec) (hb : c.code = cc) (hlocks : meth.locks = false) {ret : Option FieldType} (hret : meth.sig.returnType = ret)
    {al : List Nat} {k0 n0 : Nat} {v : Option Value} {hs' : EH} (hv : ev_rok ret v = true) :
    ev_Rt p l e R s m args below meth c (MQ below (ev_Qc D cl cs ox A al v hs'.1) args s (hs'.2.1 - k0) (hs'.2.2 - n0) A) cc D cl cs ox A al k0 n0 v hs' := by
  intro al' H locs ls pc ig w wv hg hdg k1 k2
  have hq : ∀ t : State, t.heap = H → s.WarmedH t.vm → ev_Qc D cl cs ox A al v hs'.1 args s (.returned (v.map (ev_rv ox al'))) t := fun t ht hW =>
    ⟨⟨al', w.1, rfl, w.2.1, by rw [ht]; exact w.2.2.1, w.2.2.2.1, w.2.2.2.2.2, wv⟩, w.2.2.2.2.1.F ht⟩
  have hf : ∀ q ∈ locs, A q.base := w.2.2.2.2.1.2.2
  match ret, v, hv, hg, hret, hq with
  | none, none, hv, hg, hret, hq =>
    cases hg
    exact W.vret hx hb hret hq hf hdg
  | some .int, some (.int x), hv, hg, hret, hq =>
    cases hg
    exact W.zret hx hb hret rfl hq hf hdg
  | some .boolean, some (.int x), hv, hg, hret, hq =>
    cases hg
    refine W.zret hx hb hret ?_ hq hf hdg
    rcases Bool.or_eq_true_iff.mp hv with z | z
    · cases of_decide_eq_true z; rfl
    · cases of_decide_eq_true z; rfl
  | some .long, some (.long x), hv, hg, hret, hq =>
    cases hg
    exact W.lret hx hb hret hq hf hdg
  | some .double, some (.double x), hv, hg, hret, hq =>
    cases hg
    exact W.dret hx hb hret hq hf hdg
  | some (.object n), some (.ref x), hv, hg, hret, hq =>
    cases hg
    exact W.aret hx hb hret (Or.inl ⟨n, rfl⟩) (Or.inr ⟨_, rfl⟩) hq hf hdg
  | some (.array n), some (.ref x), hv, hg, hret, hq =>
    cases hg
    exact W.aret hx hb hret (Or.inr ⟨n, rfl⟩) (Or.inr ⟨_, rfl⟩) hq hf hdg
theorem ev_ofW {rm : Room} {Pc : Array Value → State → Prop} {Qc : Array Value → State → Outcome → State → Prop} {mc ms : Nat} {free : Addr → Prop} (hy : plainFor (mt y).1 = true)
    (body : ∀ p e s m args below meth c s₁, BodyLoose p l (mt y).1 (headSpec (ev_ws mt Tg y) rm) (mt y).2.1 (mt y).2.2.1 (mt y).2.2.2.1 e s m args below meth c s₁ → c.maxLocals = (mt y).2.2.1 → Pc args s →
      W p l e (headSpec (ev_ws mt Tg y) rm).room s m args below meth c s.heap [] 0 0 (MQ below Qc args s mc ms free) (entryFrame m args (mt y).2.2.1)) : Met l (mt y).1 (ev_ws mt Tg y) rm Pc Qc mc ms free := by
  refine MetFree.of_bodySF (code := (mt y).2.1) (maxLocals := (mt y).2.2.1) (ret := (mt y).2.2.2.1) hy ?_ ?_
  · intro args s m h hn
    have hw : (ev_cw mt y).before args s = true := atoms_spec (ws := ev_ws mt Tg y) h _ List.mem_cons_self
    unfold ev_cw at hw
    cases hz : (mt y).2.2.2.2 with
    | nil =>
      rw [hz] at hw
      obtain ⟨meth, c, h1, h2, h3, h4, h5, h6, -, -⟩ := Cond.code_spec hn hw
      exact ⟨meth, c, h1, h2, h3, h4, h5, h6⟩
    | cons a b =>
      rw [hz] at hw
      obtain ⟨m9, meth, c, hn9, h1, h2, h3, h4, -, h5, h6, -⟩ := Cond.codeWith_spec hw
      cases hn.symm.trans hn9
      exact ⟨meth, c, h1, h2, h3, h4, h5, h6⟩
  · intro p e s m args below meth c s₁ B hml hP _
    have hh0 : s₁.heap = s.heap := by rw [B.state]; rfl
    obtain ⟨t, a1, o, b1, b2, b3⟩ := body p e s m args below meth c s₁ B hml hP s₁ hh0 (Stand.of_body B)
    exact ⟨t, o, a1, b1, b2, ⟨b3.1, b3.2⟩⟩
theorem ev_tab {rm : Room} {p : Program} {e : Env} {s s₁ : State} {m : MethodId} {args : Array Value} {below : List Frame} {meth : Method} {c : Code} {cc : ByteArray} {nL : Nat} {ret : Option FieldType} (B : BodyLoose p l (mt y).1 (headSpec (ev_ws mt Tg y) rm) cc nL ret e s m args below meth c s₁) :
    c.exceptionTable.toList.map (fun h => (h.startPc, h.endPc, h.handlerPc, h.catchType)) = (mt y).2.2.2.2 := by
  have hw : (ev_cw mt y).before args s = true := atoms_spec (ws := ev_ws mt Tg y) B.pre _ List.mem_cons_self
  unfold ev_cw at hw
  cases hz : (mt y).2.2.2.2 with
  | nil =>
    rw [hz] at hw
    obtain ⟨meth9, c9, h1, h2, -, -, -, -, h7, -⟩ := Cond.code_spec B.named hw
    cases Option.some.inj (h1.symm.trans B.method)
    cases Option.some.inj (h2.symm.trans (Stand.of_body B).code)
    rw [Array.isEmpty_iff.mp h7]
    rfl
  | cons a b =>
    rw [hz] at hw
    obtain ⟨m9, meth9, c9, hn9, h1, h2, -, -, h6, -⟩ := Cond.codeWith_spec hw
    cases Option.some.inj (hn9.symm.trans B.named)
    cases Option.some.inj (h1.symm.trans B.method)
    cases Option.some.inj (h2.symm.trans (Stand.of_body B).code)
    exact h6
theorem ev_met (hl : l.stackTraces = false) (hy : plainFor (mt y).1 = true) (hI : isI = true → (mt y).1.name = "<init>")
    (hcode : ∀ pc, ev_Ok (mt y).2.1 (mt y).2.2.1 (mt y).2.2.2.2 (mt y).1.cls Tg Tn Tq cl isI (ev_CO mt Tg Tn Tq cl d) pc (code pc))
    (hcall : ∀ (R : Room), ev_fr d + 1 ≤ R.frames → 64 + ev_lw d ≤ R.locals → ev_CO mt Tg Tn Tq cl d l R cs D ox A call)
    {av : List Value} {hs hs' : EH} {o : Option Value ⊕ String} (hsl : Nat.ble ((av.map fun v => v.category).sum) (mt y).2.2.1 = true) (h : ev_fin (mt y).2.2.2.1 ((mt y).2.2.2.2.isEmpty && plainName (mt y).1.cls) hs (ev_run code call fu (0, lv_args 0 av, []) hs) = some (o, hs')) (al : List Nat) :
    ev_Me l mt Tg Tn Tq cl y (ev_fr (d + 1)) (ev_lw (d + 1)) D cs ox A al hs av o hs' := by
  obtain ⟨hrun, m1, m2, hrok, hemp⟩ := ev_fin_spec h
  have hn : (lg_sl (av.map (ev_rv ox al))).length ≤ (mt y).2.2.1 := by rw [ev_sl_len, ev_cats]; exact Nat.le_of_ble_eq_true hsl
  cases o with
  | inl v =>
    show Met l _ _ _ _ _ _ _ A
    refine ev_ofW hy ?_
    intro p e s m args below meth c s₁ B hml hv
    obtain ⟨rfl, hsr, hal, hP, hD, hwf, hav⟩ := hv
    have hts := atoms_spec (ws := ev_ws mt Tg y) B.pre
    have hin : meth.name = (mt y).1.name := (name_of_methodNamed B.named B.method).1
    have hG := ev_run_ok hcode (p := p) (l := l) (e := e) (R := { frames := ev_fr (d + 1), cells := hs'.2.1 - hs.2.1, slots := hs'.2.2 - hs.2.2, locals := ev_lw (d + 1) }) (s := s) (m := m) (args := (av.map (ev_rv ox al)).toArray) (below := below) (meth := meth) (c := c) (Q := MQ below (ev_Qc D cl cs ox A al v hs'.1) (av.map (ev_rv ox al)).toArray s (hs'.2.1 - hs.2.1) (hs'.2.2 - hs.2.2) A) (D := D) (cs := cs) (ox := ox) (A := A) (al0 := al) (k0 := hs.2.1) (n0 := hs.2.2) (call := call) (o := .inl v) (hs' := hs')
      ⟨⟨B.exec, B.bytes, hml, findClass_of_methodNamed B.named, fun w hw => hts w (List.mem_cons_of_mem _ hw)⟩, hsr, ev_tab B, Nat.le_refl _, Nat.le_refl _⟩ (fun z => hin.trans (hI z)) (hcall _ (show ev_fr d + 1 ≤ ev_fr (d + 1) by unfold ev_fr; omega) (show 64 + ev_lw d ≤ ev_lw (d + 1) by unfold ev_lw; omega))
      (fun v' hv' => by cases hv'; exact ev_rt_met B.exec B.bytes B.notSynchronized B.returns (hrok v rfl)) (fun E hE => by cases hE) fu _ _ hrun (Nat.le_refl _) (Nat.le_refl _)
    have hW := hG.2.2 al s.heap [] _ ⟨List.prefix_refl _, hal, hP, hD, va_S.rf, hwf⟩ (ev_args_ok av 0 hav) (fun v hv => by cases hv) (by rw [← ev_args_map]; exact lv_entry (av.map (ev_rv ox al)) hn)
    rw [Nat.sub_self, Nat.sub_self] at hW
    rw [lg_entry_eq]
    exact hW
  | inr E =>
    show vx_Met l _ _ _ _ _ _ _ _ A
    obtain ⟨hz, hy2⟩ := Bool.and_eq_true_iff.mp (hemp E rfl)
    have hz : (mt y).2.2.2.2 = [] := List.isEmpty_iff.mp hz
    refine vx_ofW (cc := (mt y).2.1) (maxL := (mt y).2.2.1) (ret := (mt y).2.2.2.1) hy2 (ev_ws0 hz) ?_
    intro p e s m args below meth c s₁ B hml htab hv
    obtain ⟨rfl, hsr, hal, hP, hD, hwf, hav⟩ := hv
    have hts := atoms_spec (ws := ev_ws mt Tg y) B.pre
    have hin : meth.name = (mt y).1.name := (name_of_methodNamed B.named B.method).1
    have hG := ev_run_ok hcode (p := p) (l := l) (e := e) (R := { frames := ev_fr (d + 1), cells := hs'.2.1 - hs.2.1, slots := hs'.2.2 - hs.2.2, locals := ev_lw (d + 1) }) (s := s) (m := m) (args := (av.map (ev_rv ox al)).toArray) (below := below) (meth := meth) (c := c) (Q := vx_MQ below (fun _ _ _ _ => False) (ev_XC D cl cs ox A al E hs'.1) (av.map (ev_rv ox al)).toArray s (hs'.2.1 - hs.2.1) (hs'.2.2 - hs.2.2) A) (D := D) (cs := cs) (ox := ox) (A := A) (al0 := al) (k0 := hs.2.1) (n0 := hs.2.2) (call := call) (o := .inr E) (hs' := hs')
      ⟨⟨B.exec, B.bytes, hml, findClass_of_methodNamed B.named, fun w hw => hts w (List.mem_cons_of_mem _ hw)⟩, hsr, ev_tab B, Nat.le_refl _, Nat.le_refl _⟩ (fun z => hin.trans (hI z)) (hcall _ (show ev_fr d + 1 ≤ ev_fr (d + 1) by unfold ev_fr; omega) (show 64 + ev_lw d ≤ ev_lw (d + 1) by unfold ev_lw; omega))
      (fun v' hv' => by cases hv') (fun E' hE => by
        cases hE
        exact ⟨hl, B.notSynchronized, htab, _, _, rfl, fun al' H locs w t ht ha => ⟨rfl, ⟨al', w.1, w.2.1, by rw [ht]; exact w.2.2.1, w.2.2.2.1, w.2.2.2.2.2⟩, w.2.2.2.2.1.F ht⟩⟩) fu _ _ hrun (Nat.le_refl _) (Nat.le_refl _)
    have hW := hG.2.2 al s.heap [] _ ⟨List.prefix_refl _, hal, hP, hD, va_S.rf, hwf⟩ (ev_args_ok av 0 hav) (fun v hv => by cases hv) (by rw [← ev_args_map]; exact lv_entry (av.map (ev_rv ox al)) hn)
    rw [Nat.sub_self, Nat.sub_self] at hW
    rw [lg_entry_eq]
    exact hW
end EVM
/-- all methods' contracts at every depth -/
theorem ev_depth {l : Launch} {mt : EM} {Tg Tn : List Cond} {Tq : EQ} {cl : List vw_C} {pg : Nat → Nat → EA} {isI : Nat → Bool} (hl : l.stackTraces = false) (hy : ∀ y, plainFor (mt y).1 = true) (hI : ∀ y, isI y = true → (mt y).1.name = "<init>")
    (hcode : ∀ y d pc, ev_Ok (mt y).2.1 (mt y).2.2.1 (mt y).2.2.2.2 (mt y).1.cls Tg Tn Tq cl (isI y) (ev_CO mt Tg Tn Tq cl d) pc (pg y pc)) (D : va_G) (cs : Nat → ClassId) (ox : Nat → Nat) (A : Nat → Prop) (fu : Nat) :
    ∀ (d : Nat) (R : Room), ev_fr d + 1 ≤ R.frames → 64 + ev_lw d ≤ R.locals → ev_CO mt Tg Tn Tq cl d l R cs D ox A (ev_call mt pg fu d) := by
  intro d
  induction d with
  | zero => exact fun R h1 h2 => ⟨h1, h2, fun y av hs o hs' h => by cases h⟩
  | succ d ih =>
    intro R h1 h2
    refine ⟨h1, h2, fun y av hs o hs' h => ?_⟩
    have h : (bif Nat.ble ((av.map fun v => v.category).sum) (mt y).2.2.1 then ev_fin (mt y).2.2.2.1 ((mt y).2.2.2.2.isEmpty && plainName (mt y).1.cls) hs (ev_run (pg y) (ev_call mt pg fu d) fu (0, lv_args 0 av, []) hs) else none) = some (o, hs') := h
    cases hb : Nat.ble ((av.map fun v => v.category).sum) (mt y).2.2.1 with
    | false => rw [hb] at h; cases h
    | true =>
      rw [hb] at h
      obtain ⟨-, m1, m2, -, -⟩ := ev_fin_spec h
      exact ⟨m1, m2, fun al => ev_met hl (hy y) (hI y) (fun pc => hcode y d pc) ih hb h al⟩

/-! a call in a method with handlers: what the callee throws is caught by the first row that names its class -/
def ev_find : List (String × Nat × Nat) → String → Option (Nat × Nat)
  | [], _ => none
  | q :: r, E => bif decide (q.1 = E) then some q.2 else ev_find r E
def ev_del (lo : List (Nat × Value)) (i : Nat) : List (Nat × Value) := lo.filter (fun q => !(q.1 == i) && !(q.1 + 1 == i && q.2.category == 2))
def a_invH (y N : Nat) (ci : Option Nat) (hl : List (String × Nat × Nat)) : EA := fun call k f hs =>
  bif Nat.ble N f.2.2.length && (Nat.ble (((f.2.2.drop N).map fun v => v.category).sum) 8 && ev_recv ci (f.2.2.take N).reverse hs.1) then
    match call y (f.2.2.take N).reverse hs with
    | some (.inl v, h1) => k (f.1 + 3, f.2.1, v.toList ++ f.2.2.drop N) h1
    | some (.inr E, h1) => (match ev_find hl E with
      | some q => k (q.1, ev_del f.2.1 q.2, []) h1
      | none => none)
    | none => none
  else none

theorem ev_CO.small2 {mt : EM} {Tg Tn : List Cond} {Tq : EQ} {cl : List vw_C} {d : Nat} : ∀ (l : Launch) (R : Room) (cs : Nat → ClassId) (D : va_G) (ox : Nat → Nat) (A : Nat → Prop) (call : ECall), ev_CO mt Tg Tn Tq cl d l R cs D ox A call → 1 ≤ R.frames ∧ 260 ≤ R.locals := by
  intro l R cs D ox A call h
  obtain ⟨h1, h2, -⟩ := h
  unfold ev_fr at h1
  unfold ev_lw at h2
  exact ⟨by omega, by omega⟩
/-- a static call of a method with handlers -/
theorem run_SW {cc : ByteArray} {nL : Nat} {hh : List (Nat × Nat × Nat × Nat)} {own : String} {Ts Tn : List Cond} {Tq : EQ} {cl : List vw_C} {mt : EM} {y n index pc : Nat} (d : decode cc pc = .ok (.invokestatic index, 3)) (hz : (mt y).2.2.2.2 ≠ []) (hg : ∀ w ∈ Ts, goodWord w = true)
    (hc : Cond.codeWith (mt y).1 (mt y).2.1 (mt y).2.2.1 (mt y).2.2.2.1 (mt y).2.2.2.2 ∈ Ts) (hini : Cond.initialized (mt y).1.cls ∈ Ts) (hl : Cond.methodLink own index (mt y).1 ∈ Ts) (hi : Cond.static (mt y).1 ∈ Ts)
    (hd : (mt y).1.cls ≠ "java/lang/invoke/MethodHandle" ∧ (mt y).1.cls ≠ "java/lang/invoke/VarHandle" ∧ (parseMethodDescriptor (mt y).1.desc).map (fun d => d.parameters.length) = some n) (hL : (mt y).2.2.1 ≤ 45) :
    ev_Run false cc nL hh own Ts Tn Tq cl mt y n none pc := by
  intro p l e R s m args below meth c D cs A k0 n0 ck cn cx H locs ls cells slots mc ms Pc Qc XC rm av rest hN hls h8 h1 h2 h3 h4 hp hr hf
  have hts := cx.1.2.2.2.2
  have hG : GoodIn Ts (ev_ws mt Ts y) := by
    rw [ev_ws1 hz]
    intro w hw
    rcases List.mem_cons.mp hw with rfl | hw
    · exact ⟨hc, good_of_word (hg _ hc)⟩
    · exact ⟨hw, good_of_word (hg _ hw)⟩
  have cw : vx_CSW R s args own index (mt y).1 (mt y).2.1 (mt y).2.2.1 (mt y).2.2.2.1 (mt y).2.2.2.2 (ev_ws mt Ts y) rm mc ms n :=
    ⟨⟨h1, h2, h3, by omega, pay_in hts hG, by rw [ev_ws1 hz]; exact List.mem_cons_self⟩, hts _ hc, hts _ hini, ⟨hd.1, hd.2.1⟩, ev_nlen hd.2.2, hts _ hl, hts _ hi⟩
  exact ⟨fun hM => vx_runSW cx.1 hM cw hp rfl hN hls rfl (lv_room h8) d hf, fun h => by cases h⟩
/-- what is known of a row of the table of handlers -/
def ev_HF (cc : ByteArray) (nL : Nat) (hh : List (Nat × Nat × Nat × Nat)) (own : String) (Ts Tn : List Cond) (Tq : EQ) (pc : Nat) (E : String) (q : Nat × Nat) : Prop :=
  ∃ (k a b h ct : Nat), hh[k]? = some (a, b, h, ct) ∧ a ≤ pc ∧ pc < b ∧ ct ≠ 0 ∧ Cond.classLink own ct E ∈ Ts ∧ Cond.castable E E ∈ Tn ∧ q.2 < nL ∧
    ((∃ z : Fin 4, (z : Nat) = q.2 ∧ decode cc h = .ok (.astore_n z, 1) ∧ q.1 = h + 1) ∨ (decode cc h = .ok (.astore q.2, 2) ∧ q.1 = h + 2)) ∧
    ∀ (k' : Nat) (z : Nat × Nat × Nat × Nat), k' < k → hh[k']? = some z → z.2.2.2 ≠ 0 ∧ ∃ nm, Cond.classLink own z.2.2.2 nm ∈ Ts ∧ (E, nm) ∈ Tq.2
theorem ev_find_1 {a : String × Nat × Nat} {E : String} {q : Nat × Nat} {P : Prop} {r : List (String × Nat × Nat)} (h : ev_find (a :: r) E = some q) (h1 : a.1 = E → a.2 = q → P) (h2 : ev_find r E = some q → P) : P := by
  unfold ev_find at h
  by_cases hE : a.1 = E
  · rw [decide_eq_true hE] at h
    exact h1 hE (Option.some.inj h)
  · rw [decide_eq_false hE] at h
    exact h2 h
theorem ok_invH {cc : ByteArray} {nL : Nat} {hh : List (Nat × Nat × Nat × Nat)} {own : String} {Ts Tn : List Cond} {Tq : EQ} {cl : List vw_C} {isI : Bool} {mt : EM} {d pc y N : Nat} {ci : Option Nat} {hl : List (String × Nat × Nat)} (hrun : ev_Run true cc nL hh own Ts Tn Tq cl mt y N ci pc)
    (hH : ∀ E q, ev_find hl E = some q → ev_HF cc nL hh own Ts Tn Tq pc E q) : ev_Ok cc nL hh own Ts Tn Tq cl isI (ev_CO mt Ts Tn Tq cl d) pc (a_invH y N ci hl) := by
  intro p l e R s m args below meth c Q D cs ox A al0 k0 n0 call kont f hs o hs' cx hI hC hR hT hpc h hk
  have hok := @ok_inv cc nL hh own Ts Tn Tq cl isI mt d pc y N ci true hrun p l e R s m args below meth c Q D cs ox A al0 k0 n0 call kont f hs o hs' cx hI hC hR hT hpc
  obtain ⟨pc', lo, st⟩ := f
  cases hpc
  have h : (bif Nat.ble N st.length && (Nat.ble (((st.drop N).map fun v => v.category).sum) 8 && ev_recv ci (st.take N).reverse hs.1) then
    (match call y (st.take N).reverse hs with
    | some (.inl v, h1) => kont (pc' + 3, lo, v.toList ++ st.drop N) h1
    | some (.inr E, h1) => (match ev_find hl E with
      | some q => kont (q.1, ev_del lo q.2, []) h1
      | none => none)
    | none => none) else none) = some (o, hs') := h
  have hok : (bif Nat.ble N st.length && (Nat.ble (((st.drop N).map fun v => v.category).sum) 8 && ev_recv ci (st.take N).reverse hs.1) then
    (match call y (st.take N).reverse hs with
    | some (.inl v, h1) => kont (pc' + 3, lo, v.toList ++ st.drop N) h1
    | some (.inr E, h1) => some (.inr E, h1)
    | none => none) else none) = some (o, hs') → _ := hok
  cases hb : (Nat.ble N st.length && (Nat.ble (((st.drop N).map fun v => v.category).sum) 8 && ev_recv ci (st.take N).reverse hs.1)) with
  | false => rw [hb] at h; cases h
  | true =>
    rw [hb] at h hok
    dsimp only [cond_true] at h hok
    cases hq : call y (st.take N).reverse hs with
    | none => rw [hq] at h; cases h
    | some z =>
      rw [hq] at h hok
      obtain ⟨z, h1⟩ := z
      cases z with
      | inl v => exact hok h hk
      | inr E =>
        dsimp only at h
        cases hfd : ev_find hl E with
        | none => rw [hfd] at h; cases h
        | some q =>
          rw [hfd] at h
          dsimp only at h
          obtain ⟨b1, b2⟩ := Bool.and_eq_true_iff.mp hb
          obtain ⟨b2, b3⟩ := Bool.and_eq_true_iff.mp b2
          have n1 : N ≤ st.length := Nat.le_of_ble_eq_true b1
          have n2 : ((st.drop N).map fun v => v.category).sum ≤ 8 := Nat.le_of_ble_eq_true b2
          obtain ⟨r1, r2, hM⟩ := hC
          obtain ⟨m1, m2, m3⟩ := hM _ _ _ _ _ hq
          have hst : ∀ al : List Nat, st.map (ev_rv ox al) = ((st.take N).reverse.map (ev_rv ox al)).reverse ++ (st.drop N).map (ev_rv ox al) := fun al => by
            rw [List.map_reverse, List.reverse_reverse, ← List.map_append, List.take_append_drop]
          have hlen : (st.take N).reverse.length = N := by rw [List.length_reverse, List.length_take]; omega
          have hrecv : ∀ (al : List Nat) (H : Heap), al.length = hs.1.length → va_P D cl (ev_w cs ox al hs.1) H → ∀ c, ci = some c → ∃ (b : Nat) (as : List Value) (q : vw_C) (cell : Cell), (st.take N).reverse.map (ev_rv ox al) = .ref b :: as ∧ cl[c]? = some q ∧ H[b]? = some cell ∧ cell.vm.isStatics = false ∧ s.vm.findClass q.1 = some cell.cls := by
            intro al H hn hP c0 hc0
            subst hc0
            unfold ev_recv at b3
            match hav : (st.take N).reverse, b3 with
            | .ref b :: as, b3 =>
              dsimp only at b3
              cases hq : hs.1[b]? with
              | none => rw [hq] at b3; cases b3
              | some e0 =>
                rw [hq] at b3
                obtain ⟨t0, fs⟩ := e0
                cases t0 with
                | inl t => cases b3
                | inr c' =>
                  cases Nat.eq_of_beq_eq_true b3
                  have he := ev_w_get (cs := cs) (ox := ox) hn hq
                  obtain ⟨r, h1, -⟩ := hP b _ he
                  obtain ⟨cell, z1, z2, z3⟩ := va_recv cx.2.1.1 hP h1 he
                  exact ⟨al.getD b 0, as.map (ev_rv ox al), r, cell, rfl, h1, z1, z2, z3⟩
          obtain ⟨kx, a, b, hpc2, ct, x1, x2, x3, x4, x5, x6, x7, x8, x9⟩ := hH E q hfd
          intro k1 k2
          obtain ⟨g1, g2, g3⟩ := hk _ _ h (Nat.le_trans k1 m1) (Nat.le_trans k2 m2)
          refine ⟨Nat.le_trans m1 g1, Nat.le_trans m2 g2, fun al H locs ls w wl wv hl => ?_⟩
          have hM3 : vx_Met l (mt y).1 (ev_ws mt Ts y) _ _ _ _ _ _ A := m3 al
          have hr := (hrun p l e R s m args below meth c D cs A k0 n0 _ _ cx H locs ls (hs.2.1 - k0) (hs.2.2 - n0) (h1.2.1 - hs.2.1) (h1.2.2 - hs.2.2) _ _ _ _ ((st.take N).reverse.map (ev_rv ox al)) ((st.drop N).map (ev_rv ox al)) (by rw [List.length_map]; exact hlen) hl.1 (by rw [ev_cats]; exact n2) rfl rfl r1 r2
            (ev_pre cx.2.1 w (fun v hv => wv v (List.mem_of_mem_take (List.mem_reverse.mp hv)))) (hrecv al H w.2.1 w.2.2.1) (by have := cx.2.2.2; omega)).2 rfl hM3
          show W p l e R s m args below meth c H locs (hs.2.1 - k0) (hs.2.2 - n0) _ (F0 m pc' ls (st.map (ev_rv ox al)))
          rw [hst al]
          refine ev_afterX hr w.2.2.2.2.1 (fun al' H1 locs1 ce q9 q1 q2 q3 q4 q5 q6 hce hcv hcl => ?_)
          obtain ⟨⟨hx, hbb, hml, hown, hts⟩, ⟨hKK, hA, hNw, hZU, hZS, hTq, hNc⟩, hEx, hRc, hRs⟩ := cx
          have hx1 : (c.exceptionTable.toList.map (fun h => (h.startPc, h.endPc, h.handlerPc, h.catchType)))[kx]? = some (a, b, hpc2, ct) := by rw [hEx]; exact x1
          rw [List.getElem?_map] at hx1
          cases hxe : c.exceptionTable.toList[kx]? with
          | none => rw [hxe] at hx1; cases hx1
          | some xe =>
            rw [hxe] at hx1
            have hxq : (xe.startPc, xe.endPc, xe.handlerPc, xe.catchType) = (a, b, hpc2, ct) := Option.some.inj hx1
            have e1 : xe.startPc = a := congrArg (fun z => z.1) hxq
            have e2 : xe.endPc = b := congrArg (fun z => z.2.1) hxq
            have e3 : xe.handlerPc = hpc2 := congrArg (fun z => z.2.2.1) hxq
            have e4 : xe.catchType = ct := congrArg (fun z => z.2.2.2) hxq
            have hsplit : c.exceptionTable.toList = c.exceptionTable.toList.take kx ++ xe :: c.exceptionTable.toList.drop (kx + 1) := by
              obtain ⟨hlt, hge⟩ := List.getElem?_eq_some_iff.mp hxe
              rw [← hge, List.getElem_cons_drop, List.take_append_drop]
            refine vx_catch hown _ xe _ hsplit (fun z hz => ?_) (by show (decide (xe.startPc ≤ pc') && decide (pc' < xe.endPc)) = true; rw [e1, e2, decide_eq_true x2, decide_eq_true x3]; rfl) (by rw [e4]; exact x4) (by rw [e4]; exact hts _ x5) (va_Nw.use (ev_nestw_on (hNw _ x6).1) (hNw _ x6).2) hce hcv hcl ?_
            · obtain ⟨kz, hkz⟩ := List.getElem?_of_mem hz
              have hkl : kz < kx := by
                have := (List.getElem?_eq_some_iff.mp hkz).1
                rw [List.length_take] at this
                omega
              rw [List.getElem?_take_of_lt hkl] at hkz
              obtain ⟨y1, nm, y2, y3⟩ := x9 kz (z.startPc, z.endPc, z.handlerPc, z.catchType) hkl (by rw [← hEx, List.getElem?_map, hkz]; rfl)
              exact Or.inr ⟨y1, nm, hts _ y2, hNc _ y3⟩
            · obtain ⟨be, rfl⟩ := q1
              have hmono : hs.1.length ≤ h1.1.length := by rw [← w.2.1, ← q2, List.length_append]; exact Nat.le_add_right _ _
              have k3 : ∀ ls', lv_has ls' nL ((ev_del lo q.2).map (fun q : Nat × Value => (q.1, ev_rv ox (al ++ be) q.2))) → W p l e R s m args below meth c H1 locs1 (h1.2.1 - k0) (h1.2.2 - n0) Q (F0 m q.1 ls' []) := fun ls' hl' =>
                g3 (al ++ be) H1 locs1 ls' ⟨List.IsPrefix.trans w.1 (List.prefix_append _ _), q2, q3, q4, q5, q6⟩ (fun z hz => ev_ok_mono hmono (wl z (List.mem_filter.mp hz).1)) (fun v hv => by cases hv) hl'
              rw [show h1.2.1 - k0 = hs.2.1 - k0 + (h1.2.1 - hs.2.1) by omega, show h1.2.2 - n0 = hs.2.2 - n0 + (h1.2.2 - hs.2.2) by omega] at k3
              have hl2 : lv_has ls nL (lo.map (fun q : Nat × Value => (q.1, ev_rv ox (al ++ be) q.2))) := by rw [ev_loc_app w.2.1 wl]; exact hl
              have hdel : ∀ ls', lv_has ls' nL ((q.2, Value.ref q9) :: (lo.map (fun q : Nat × Value => (q.1, ev_rv ox (al ++ be) q.2))).filter (fun z => !(z.1 == q.2) && !(z.1 + 1 == q.2 && z.2.category == 2))) → lv_has ls' nL ((ev_del lo q.2).map (fun q : Nat × Value => (q.1, ev_rv ox (al ++ be) q.2))) := by
                intro ls' hls
                refine ⟨hls.1, hls.2.1, fun z hz => hls.2.2 z (List.mem_cons_of_mem _ ?_)⟩
                rw [ev_filt]
                exact hz
              rw [e3]
              rcases x8 with ⟨z, z1, z2, z3⟩ | ⟨z2, z3⟩
              · rw [z3] at k3
                exact lv_astore_n hx hbb z2 z1 hl2 x7 rfl (fun ls' hls => k3 ls' (hdel ls' hls))
              · rw [z3] at k3
                exact lv_astore hx hbb z2 hl2 x7 rfl (fun ls' hls => k3 ls' (hdel ls' hls))
