/-! EV: throws; a whole method's contract out of its run; the depth. -/
/-- does the value fit what the method returns? -/
def ev_rok (ret : Option FieldType) (v : Option Value) : Bool := match ret, v with
  | none, none => true
  | some .int, some (.int _) => true
  | some .boolean, some (.int x) => decide (x = 0) || decide (x = 1)
  | some .long, some (.long _) => true
  | some .double, some (.double _) => true
  | some (.object _), some (.ref _) => true
  | some (.array _), some (.ref _) => true
  | _, _ => false
def ev_fin (ret : Option FieldType) (he : Bool) (hs : EH) (r : ER) : ER := match r with
  | some (.inl v, h1) => bif ev_rok ret v && (Nat.ble hs.2.1 h1.2.1 && Nat.ble hs.2.2 h1.2.2) then some (.inl v, h1) else none
  | some (.inr E, h1) => bif he && (Nat.ble hs.2.1 h1.2.1 && Nat.ble hs.2.2 h1.2.2) then some (.inr E, h1) else none
  | none => none
/-- calls to depth d: pg: the methods' codes; fu: the fuel of one run -/
noncomputable def ev_call (mt : EM) (pg : Nat → Nat → EA) (fu d : Nat) : ECall := Nat.rec (motive := fun _ => ECall) (fun _ _ _ => none) (fun _ ih y av hs =>
  bif Nat.ble ((av.map fun v => v.category).sum) (mt y).2.2.1 then ev_fin (mt y).2.2.2.1 ((mt y).2.2.2.2.isEmpty && plainName (mt y).1.cls) hs (ev_run (pg y) ih fu (0, lv_args 0 av, []) hs) else none) d
theorem ev_fin_spec {ret : Option FieldType} {he : Bool} {hs : EH} {r : ER} {o : Option Value ⊕ String} {h1 : EH} (h : ev_fin ret he hs r = some (o, h1)) : r = some (o, h1) ∧ hs.2.1 ≤ h1.2.1 ∧ hs.2.2 ≤ h1.2.2 ∧ (∀ v, o = .inl v → ev_rok ret v = true) ∧ ∀ E, o = .inr E → he = true := by
  unfold ev_fin at h
  match r, h with
  | some (.inl v, h2), h =>
    dsimp only at h
    cases hb : (ev_rok ret v && (Nat.ble hs.2.1 h2.2.1 && Nat.ble hs.2.2 h2.2.2)) with
    | false => rw [hb] at h; cases h
    | true =>
      rw [hb] at h
      cases h
      obtain ⟨b1, b2⟩ := Bool.and_eq_true_iff.mp hb
      obtain ⟨b2, b3⟩ := Bool.and_eq_true_iff.mp b2
      exact ⟨rfl, Nat.le_of_ble_eq_true b2, Nat.le_of_ble_eq_true b3, fun v' hv' => (by cases hv'; exact b1), fun E hE => by cases hE⟩
  | some (.inr E, h2), h =>
    dsimp only at h
    cases hb : (he && (Nat.ble hs.2.1 h2.2.1 && Nat.ble hs.2.2 h2.2.2)) with
    | false => rw [hb] at h; cases h
    | true =>
      rw [hb] at h
      cases h
      obtain ⟨b1, b2⟩ := Bool.and_eq_true_iff.mp hb
      obtain ⟨b2, b3⟩ := Bool.and_eq_true_iff.mp b2
      exact ⟨rfl, Nat.le_of_ble_eq_true b2, Nat.le_of_ble_eq_true b3, fun v' hv' => (by cases hv'), fun E hE => b1⟩
theorem ev_sl_len : ∀ (vs : List Value), (lg_sl vs).length = (vs.map fun v => v.category).sum
  | [] => rfl
  | v :: vs => by
    unfold lg_sl
    rw [List.flatMap_cons, List.length_append, List.map_cons, List.sum_cons]
    have ih := ev_sl_len vs
    unfold lg_sl at ih
    rw [ih]
    congr 1
    cases v <;> rfl
theorem ev_args_map (ox : Nat → Nat) (al : List Nat) : ∀ (vs : List Value) (i : Nat), lv_args i (vs.map (ev_rv ox al)) = (lv_args i vs).map (fun q => (q.1, ev_rv ox al q.2))
  | [], i => rfl
  | v :: vs, i => by
    show (i, ev_rv ox al v) :: lv_args (if (ev_rv ox al v).category = 2 then i + 2 else i + 1) (vs.map (ev_rv ox al)) = (i, ev_rv ox al v) :: (lv_args (if v.category = 2 then i + 2 else i + 1) vs).map _
    rw [ev_rv_cat, ev_args_map ox al vs]
theorem ev_args_ok {n : Nat} : ∀ (vs : List Value) (i : Nat), (∀ v ∈ vs, ev_ok n v) → ∀ q ∈ lv_args i vs, ev_ok n q.2
  | [], i, _, q, hq => by cases hq
  | v :: vs, i, h, q, hq => by
    rcases List.mem_cons.mp hq with rfl | hq
    · exact ev_hd h
    · exact ev_args_ok vs _ (ev_tl h) q hq
section EVM
variable {l : Launch} {mt : EM} {Tg Tn : List Cond} {Tq : EQ} {cl : List vw_C} {y d : Nat} {D : va_G} {cs : Nat → ClassId} {ox : Nat → Nat} {A : Nat → Prop} {isI : Bool} {code : Nat → EA} {call : ECall} {fu : Nat}
/-- a frame that returns meets its contract's end -/
theorem ev_rt_met {p : Program} {e : Env} {R : Room} {s : State} {m : MethodId} {args : Array Value} {below : List Frame} {meth : Method} {c : Code} {cc : ByteArray} (hx : p.tables.exec = Jvm.exec) (hb : c.code = cc) (hlocks : meth.locks = false) {ret : Option FieldType} (hret : meth.sig.returnType = ret)
    {al : List Nat} {k0 n0 : Nat} {v : Option Value} {hs' : EH} (hv : ev_rok ret v = true) :
    ev_Rt p l e R s m args below meth c (MQ below (ev_Qc D cl cs ox A al v hs'.1) args s (hs'.2.1 - k0) (hs'.2.2 - n0) A) cc D cl cs ox A al k0 n0 v hs' := by
  intro al' H locs ls pc ig w wv hg hdg k1 k2
  have hq : ∀ t : State, t.heap = H → s.WarmedH t.vm → ev_Qc D cl cs ox A al v hs'.1 args s (.returned (v.map (ev_rv ox al'))) t := fun t ht hW =>
    ⟨⟨al', w.1, rfl, w.2.1, by rw [ht]; exact w.2.2.1, w.2.2.2.1, w.2.2.2.2.2, wv⟩, w.2.2.2.2.1.F ht⟩
  have hf : ∀ q ∈ locs, A q.base := w.2.2.2.2.1.2.2
  match ret, v, hv, hg, hret, hq with
  | none, none, hv, hg, hret, hq =>
    cases hg
    exact W.vret hx hb hret hq hf hdg
  | some .int, some (.int x), hv, hg, hret, hq =>
    cases hg
    exact W.zret hx hb hret rfl hq hf hdg
  | some .boolean, some (.int x), hv, hg, hret, hq =>
    cases hg
    refine W.zret hx hb hret ?_ hq hf hdg
    rcases Bool.or_eq_true_iff.mp hv with z | z
    · cases of_decide_eq_true z; rfl
    · cases of_decide_eq_true z; rfl
  | some .long, some (.long x), hv, hg, hret, hq =>
    cases hg
    exact W.lret hx hb hret hq hf hdg
  | some .double, some (.double x), hv, hg, hret, hq =>
    cases hg
    exact W.dret hx hb hret hq hf hdg
  | some (.object n), some (.ref x), hv, hg, hret, hq =>
    cases hg
    exact W.aret hx hb hret (Or.inl ⟨n, rfl⟩) (Or.inr ⟨_, rfl⟩) hq hf hdg
  | some (.array n), some (.ref x), hv, hg, hret, hq =>
    cases hg
    exact W.aret hx hb hret (Or.inr ⟨n, rfl⟩) (Or.inr ⟨_, rfl⟩) hq hf hdg
theorem ev_ofW {rm : Room} {Pc : Array Value → State → Prop} {Qc : Array Value → State → Outcome → State → Prop} {mc ms : Nat} {free : Addr → Prop} (hy : plainFor (mt y).1 = true)
    (body : ∀ p e s m args below meth c s₁, BodyLoose p l (mt y).1 (headSpec (ev_ws mt Tg y) rm) (mt y).2.1 (mt y).2.2.1 (mt y).2.2.2.1 e s m args below meth c s₁ → c.maxLocals = (mt y).2.2.1 → Pc args s →
      W p l e (headSpec (ev_ws mt Tg y) rm).room s m args below meth c s.heap [] 0 0 (MQ below Qc args s mc ms free) (entryFrame m args (mt y).2.2.1)) : Met l (mt y).1 (ev_ws mt Tg y) rm Pc Qc mc ms free := by
  refine MetFree.of_bodySF (code := (mt y).2.1) (maxLocals := (mt y).2.2.1) (ret := (mt y).2.2.2.1) hy ?_ ?_
  · intro args s m h hn
    have hw : (ev_cw mt y).before args s = true := atoms_spec (ws := ev_ws mt Tg y) h _ List.mem_cons_self
    unfold ev_cw at hw
    cases hz : (mt y).2.2.2.2 with
    | nil =>
      rw [hz] at hw
      obtain ⟨meth, c, h1, h2, h3, h4, h5, h6, -, -⟩ := Cond.code_spec hn hw
      exact ⟨meth, c, h1, h2, h3, h4, h5, h6⟩
    | cons a b =>
      rw [hz] at hw
      obtain ⟨m9, meth, c, hn9, h1, h2, h3, h4, -, h5, h6, -⟩ := Cond.codeWith_spec hw
      cases hn.symm.trans hn9
      exact ⟨meth, c, h1, h2, h3, h4, h5, h6⟩
  · intro p e s m args below meth c s₁ B hml hP _
    have hh0 : s₁.heap = s.heap := by rw [B.state]; rfl
    obtain ⟨t, a1, o, b1, b2, b3⟩ := body p e s m args below meth c s₁ B hml hP s₁ hh0 (Stand.of_body B)
    exact ⟨t, o, a1, b1, b2, ⟨b3.1, b3.2⟩⟩
theorem ev_tab {rm : Room} {p : Program} {e : Env} {s s₁ : State} {m : MethodId} {args : Array Value} {below : List Frame} {meth : Method} {c : Code} {cc : ByteArray} {nL : Nat} {ret : Option FieldType} (B : BodyLoose p l (mt y).1 (headSpec (ev_ws mt Tg y) rm) cc nL ret e s m args below meth c s₁) :
    c.exceptionTable.toList.map (fun h => (h.startPc, h.endPc, h.handlerPc, h.catchType)) = (mt y).2.2.2.2 := by
  have hw : (ev_cw mt y).before args s = true := atoms_spec (ws := ev_ws mt Tg y) B.pre _ List.mem_cons_self
  unfold ev_cw at hw
  cases hz : (mt y).2.2.2.2 with
  | nil =>
    rw [hz] at hw
    obtain ⟨meth9, c9, h1, h2, -, -, -, -, h7, -⟩ := Cond.code_spec B.named hw
    cases Option.some.inj (h1.symm.trans B.method)
    cases Option.some.inj (h2.symm.trans (Stand.of_body B).code)
    rw [Array.isEmpty_iff.mp h7]
    rfl
  | cons a b =>
    rw [hz] at hw
    obtain ⟨m9, meth9, c9, hn9, h1, h2, -, -, h6, -⟩ := Cond.codeWith_spec hw
    cases Option.some.inj (hn9.symm.trans B.named)
    cases Option.some.inj (h1.symm.trans B.method)
    cases Option.some.inj (h2.symm.trans (Stand.of_body B).code)
    exact h6
theorem ev_met (hl : l.stackTraces = false) (hy : plainFor (mt y).1 = true) (hI : isI = true → (mt y).1.name = "<init>")
    (hcode : ∀ pc, ev_Ok (mt y).2.1 (mt y).2.2.1 (mt y).2.2.2.2 (mt y).1.cls Tg Tn Tq cl isI (ev_CO mt Tg Tn Tq cl d) pc (code pc))
    (hcall : ∀ (R : Room), ev_fr d + 1 ≤ R.frames → 36 + ev_lw d ≤ R.locals → ev_CO mt Tg Tn Tq cl d l R cs D ox A call)
    {av : List Value} {hs hs' : EH} {o : Option Value ⊕ String} (hsl : Nat.ble ((av.map fun v => v.category).sum) (mt y).2.2.1 = true) (h : ev_fin (mt y).2.2.2.1 ((mt y).2.2.2.2.isEmpty && plainName (mt y).1.cls) hs (ev_run code call fu (0, lv_args 0 av, []) hs) = some (o, hs')) (al : List Nat) :
    ev_Me l mt Tg Tn Tq cl y (ev_fr (d + 1)) (ev_lw (d + 1)) D cs ox A al hs av o hs' := by
  obtain ⟨hrun, m1, m2, hrok, hemp⟩ := ev_fin_spec h
  have hn : (lg_sl (av.map (ev_rv ox al))).length ≤ (mt y).2.2.1 := by rw [ev_sl_len, ev_cats]; exact Nat.le_of_ble_eq_true hsl
  cases o with
  | inl v =>
    show Met l _ _ _ _ _ _ _ A
    refine ev_ofW hy ?_
    intro p e s m args below meth c s₁ B hml hv
    obtain ⟨rfl, hsr, hal, hP, hD, hwf, hav⟩ := hv
    have hts := atoms_spec (ws := ev_ws mt Tg y) B.pre
    have hin : meth.name = (mt y).1.name := (name_of_methodNamed B.named B.method).1
    have hG := ev_run_ok hcode (p := p) (l := l) (e := e) (R := { frames := ev_fr (d + 1), cells := hs'.2.1 - hs.2.1, slots := hs'.2.2 - hs.2.2, locals := ev_lw (d + 1) }) (s := s) (m := m) (args := (av.map (ev_rv ox al)).toArray) (below := below) (meth := meth) (c := c) (Q := MQ below (ev_Qc D cl cs ox A al v hs'.1) (av.map (ev_rv ox al)).toArray s (hs'.2.1 - hs.2.1) (hs'.2.2 - hs.2.2) A) (D := D) (cs := cs) (ox := ox) (A := A) (al0 := al) (k0 := hs.2.1) (n0 := hs.2.2) (call := call) (o := .inl v) (hs' := hs')
      ⟨⟨B.exec, B.bytes, hml, findClass_of_methodNamed B.named, fun w hw => hts w (List.mem_cons_of_mem _ hw)⟩, hsr, ev_tab B, Nat.le_refl _, Nat.le_refl _⟩ (fun z => hin.trans (hI z)) (hcall _ (show ev_fr d + 1 ≤ ev_fr (d + 1) by unfold ev_fr; omega) (show 36 + ev_lw d ≤ ev_lw (d + 1) by unfold ev_lw; omega))
      (fun v' hv' => by cases hv'; exact ev_rt_met B.exec B.bytes B.notSynchronized B.returns (hrok v rfl)) (fun E hE => by cases hE) fu _ _ hrun (Nat.le_refl _) (Nat.le_refl _)
    have hW := hG.2.2 al s.heap [] _ ⟨List.prefix_refl _, hal, hP, hD, va_S.rf, hwf⟩ (ev_args_ok av 0 hav) (fun v hv => by cases hv) (by rw [← ev_args_map]; exact lv_entry (av.map (ev_rv ox al)) hn)
    rw [Nat.sub_self, Nat.sub_self] at hW
    rw [lg_entry_eq]
    exact hW
  | inr E =>
    show vx_Met l _ _ _ _ _ _ _ _ A
    obtain ⟨hz, hy2⟩ := Bool.and_eq_true_iff.mp (hemp E rfl)
    have hz : (mt y).2.2.2.2 = [] := List.isEmpty_iff.mp hz
    refine vx_ofW (cc := (mt y).2.1) (maxL := (mt y).2.2.1) (ret := (mt y).2.2.2.1) hy2 (ev_ws0 hz) ?_
    intro p e s m args below meth c s₁ B hml htab hv
    obtain ⟨rfl, hsr, hal, hP, hD, hwf, hav⟩ := hv
    have hts := atoms_spec (ws := ev_ws mt Tg y) B.pre
    have hin : meth.name = (mt y).1.name := (name_of_methodNamed B.named B.method).1
    have hG := ev_run_ok hcode (p := p) (l := l) (e := e) (R := { frames := ev_fr (d + 1), cells := hs'.2.1 - hs.2.1, slots := hs'.2.2 - hs.2.2, locals := ev_lw (d + 1) }) (s := s) (m := m) (args := (av.map (ev_rv ox al)).toArray) (below := below) (meth := meth) (c := c) (Q := vx_MQ below (fun _ _ _ _ => False) (ev_XC D cl cs ox A al E hs'.1) (av.map (ev_rv ox al)).toArray s (hs'.2.1 - hs.2.1) (hs'.2.2 - hs.2.2) A) (D := D) (cs := cs) (ox := ox) (A := A) (al0 := al) (k0 := hs.2.1) (n0 := hs.2.2) (call := call) (o := .inr E) (hs' := hs')
      ⟨⟨B.exec, B.bytes, hml, findClass_of_methodNamed B.named, fun w hw => hts w (List.mem_cons_of_mem _ hw)⟩, hsr, ev_tab B, Nat.le_refl _, Nat.le_refl _⟩ (fun z => hin.trans (hI z)) (hcall _ (show ev_fr d + 1 ≤ ev_fr (d + 1) by unfold ev_fr; omega) (show 36 + ev_lw d ≤ ev_lw (d + 1) by unfold ev_lw; omega))
      (fun v' hv' => by cases hv') (fun E' hE => by
        cases hE
        exact ⟨hl, B.notSynchronized, htab, _, _, rfl, fun al' H locs w t ht ha => ⟨rfl, ⟨al', w.1, w.2.1, by rw [ht]; exact w.2.2.1, w.2.2.2.1, w.2.2.2.2.2⟩, w.2.2.2.2.1.F ht⟩⟩) fu _ _ hrun (Nat.le_refl _) (Nat.le_refl _)
    have hW := hG.2.2 al s.heap [] _ ⟨List.prefix_refl _, hal, hP, hD, va_S.rf, hwf⟩ (ev_args_ok av 0 hav) (fun v hv => by cases hv) (by rw [← ev_args_map]; exact lv_entry (av.map (ev_rv ox al)) hn)
    rw [Nat.sub_self, Nat.sub_self] at hW
    rw [lg_entry_eq]
    exact hW
end EVM
/-- all methods' contracts at every depth -/
theorem ev_depth {l : Launch} {mt : EM} {Tg Tn : List Cond} {Tq : EQ} {cl : List vw_C} {pg : Nat → Nat → EA} {isI : Nat → Bool} (hl : l.stackTraces = false) (hy : ∀ y, plainFor (mt y).1 = true) (hI : ∀ y, isI y = true → (mt y).1.name = "<init>")
    (hcode : ∀ y d pc, ev_Ok (mt y).2.1 (mt y).2.2.1 (mt y).2.2.2.2 (mt y).1.cls Tg Tn Tq cl (isI y) (ev_CO mt Tg Tn Tq cl d) pc (pg y pc)) (D : va_G) (cs : Nat → ClassId) (ox : Nat → Nat) (A : Nat → Prop) (fu : Nat) :
    ∀ (d : Nat) (R : Room), ev_fr d + 1 ≤ R.frames → 36 + ev_lw d ≤ R.locals → ev_CO mt Tg Tn Tq cl d l R cs D ox A (ev_call mt pg fu d) := by
  intro d
  induction d with
  | zero => exact fun R h1 h2 => ⟨h1, h2, fun y av hs o hs' h => by cases h⟩
  | succ d ih =>
    intro R h1 h2
    refine ⟨h1, h2, fun y av hs o hs' h => ?_⟩
    have h : (bif Nat.ble ((av.map fun v => v.category).sum) (mt y).2.2.1 then ev_fin (mt y).2.2.2.1 ((mt y).2.2.2.2.isEmpty && plainName (mt y).1.cls) hs (ev_run (pg y) (ev_call mt pg fu d) fu (0, lv_args 0 av, []) hs) else none) = some (o, hs') := h
    cases hb : Nat.ble ((av.map fun v => v.category).sum) (mt y).2.2.1 with
    | false => rw [hb] at h; cases h
    | true =>
      rw [hb] at h
      obtain ⟨-, m1, m2, -, -⟩ := ev_fin_spec h
      exact ⟨m1, m2, fun al => ev_met hl (hy y) (hI y) (fun pc => hcode y d pc) ih hb h al⟩

theorem ev_CO.small2 {mt : EM} {Tg Tn : List Cond} {Tq : EQ} {cl : List vw_C} {d : Nat} : ∀ (l : Launch) (R : Room) (cs : Nat → ClassId) (D : va_G) (ox : Nat → Nat) (A : Nat → Prop) (call : ECall), ev_CO mt Tg Tn Tq cl d l R cs D ox A call → 1 ≤ R.frames ∧ 36 ≤ R.locals := by
  intro l R cs D ox A call h
  obtain ⟨h1, h2, -⟩ := h
  unfold ev_fr at h1
  unfold ev_lw at h2
  exact ⟨by omega, by omega⟩
