theorem lwn_in : ∀ w ∈ lw_n, w ∈ lw_tbl := by decide +kernel
theorem lwn_nest : ∀ w ∈ lw_n, ev_nestw w = true := by decide +kernel
theorem lwg_in : ∀ w ∈ lw_g, w ∈ lw_tbl := fun w h => (List.mem_filter.mp h).1
theorem ev_arrOf {args : Array Value} {s : State} {ty : FieldType} (hp : va_RA = va_RA) (h : (Cond.arrayClass ty).before args s = true) : ∃ (cA : ClassId) (k : Class), ArrOfT s cA ty ∧ s.vm.findClass ("[" ++ ty.toString) = some cA := by
  obtain ⟨cA, kA, comp, h1, h2, h3⟩ := Cond.arrayClass_spec h
  exact ⟨cA, kA, fun n z => ⟨fun k h => (by cases h), kA, h2, comp, h3⟩, h1⟩
theorem ev_arrOv {args : Array Value} {s : State} {t : FieldType} (h : (Cond.arrayOver (.array t)).before args s = true) : ∃ (cA comp : ClassId) (k : Class), (s.vm.findClass ("[" ++ t.toString) = some comp ∧ s.vm.classes[cA]? = some k) ∧ k.kind = .array comp (.array t) ∧ ArrOfT s cA (.array t) ∧ s.vm.findClass ("[" ++ (FieldType.array t).toString) = some cA := by
  obtain ⟨comp, c, k, h1, h2, h3, h4, h5⟩ := arrayOverA_spec h
  exact ⟨c, comp, k, ⟨h1, h3⟩, h4, fun n z => ⟨fun k h => (by cases h), k, h3, comp, h4⟩, h5⟩
theorem ev_classes {s : State} {args : Array Value} (hts : ∀ w ∈ lw_g, w.before args s = true) (htt : ∀ w ∈ lw_tbl, w.before args s = true) : ∃ (D : va_G) (cs : Nat → ClassId), va_K D vwCl (ev_tys cs) s ∧ ev_Ra cs s := by
  obtain ⟨c0, i0, h0⟩ := u_known (C := RX0) (T := TX0) (N := 2) (n := 2) hts inGX0 (hts _ w_1117)
  obtain ⟨c1, i1, h1⟩ := u_known (C := RX1) (T := TX1) (N := 1) (n := 1) hts inGX1 (hts _ w_1102)
  obtain ⟨c2, i2, h2⟩ := u_known (C := RX2) (T := TX2) (N := 3) (n := 3) hts inGX2 (hts _ w_1032)
  obtain ⟨c3, i3, h3⟩ := u_known (C := RX3) (T := TX3) (N := 13) (n := 13) hts inGX3 (hts _ w_456)
  obtain ⟨c4, i4, h4⟩ := u_known (C := RX4) (T := TX4) (N := 16) (n := 16) hts inGX4 (hts _ w_700)
  obtain ⟨c5, i5, h5⟩ := u_known (C := RX5) (T := TX5) (N := 9) (n := 9) hts inGX5 (hts _ w_540)
  obtain ⟨c6, i6, h6⟩ := u_known (C := RX6) (T := TX6) (N := 10) (n := 10) hts inGX6 (hts _ w_961)
  obtain ⟨c7, i7, h7⟩ := u_known (C := RX7) (T := TX7) (N := 9) (n := 9) hts inGX7 (hts _ w_375)
  obtain ⟨c8, i8, h8⟩ := u_known (C := RX8) (T := TX8) (N := 9) (n := 9) hts inGX8 (hts _ w_438)
  obtain ⟨c9, i9, h9⟩ := u_known (C := RX9) (T := TX9) (N := 10) (n := 10) hts inGX9 (hts _ w_325)
  obtain ⟨c10, i10, h10⟩ := u_known (C := RX10) (T := TX10) (N := 7) (n := 7) hts inGX10 (hts _ w_285)
  obtain ⟨c11, i11, h11⟩ := u_known (C := RX11) (T := TX11) (N := 9) (n := 9) hts inGX11 (hts _ w_848)
  obtain ⟨c12, i12, h12⟩ := u_known (C := RX12) (T := TX12) (N := 24) (n := 24) hts inGX12 (hts _ w_950)
  obtain ⟨a0, b0, p0, q0⟩ := ev_arrOf rfl (hts _ w_614)
  obtain ⟨a1, b1, p1, q1⟩ := ev_arrOf rfl (hts _ w_1030)
  obtain ⟨a3, b3, k3, x3, y3, p3, q3⟩ := ev_arrOv (t := .int) (htt _ (List.mem_of_getElem? (i := 1335) (by decide +kernel)))
  obtain ⟨a4, b4, k4, x4, y4, p4, q4⟩ := ev_arrOv (t := .array .int) (htt _ (List.mem_of_getElem? (i := 1337) (by decide +kernel)))
  obtain ⟨a5, b5, k5, x5, y5, p5, q5⟩ := ev_arrOv (t := .boolean) (htt _ (List.mem_of_getElem? (i := 1339) (by decide +kernel)))
  have e3 : b3 = a0 := Option.some.inj (x3.1.symm.trans q0)
  have e4 : b4 = a3 := Option.some.inj (x4.1.symm.trans q3)
  have e5 : b5 = a1 := Option.some.inj (x5.1.symm.trans q1)
  subst e3
  subst e4
  subst e5
  refine ⟨(fun k => match k with | 0 => c0 | 1 => c1 | 2 => c2 | 3 => c3 | 4 => c4 | 5 => c5 | 6 => c6 | 7 => c7 | 8 => c8 | 9 => c9 | 10 => c10 | 11 => c11 | 12 => c12 | _ => c0, fun k => match k with | 0 => i0 | 1 => i1 | 2 => i2 | 3 => i3 | 4 => i4 | 5 => i5 | 6 => i6 | 7 => i7 | 8 => i8 | 9 => i9 | 10 => i10 | 11 => i11 | 12 => i12 | _ => i0), (fun k => match k with | 0 => b3 | 1 => b5 | 2 => b3 | 3 => b4 | 4 => a4 | _ => a5), ⟨?_, ?_⟩, ?_⟩
  · intro k q hq
    match k, hq with
    | 0, hq => cases hq; exact h0
    | 1, hq => cases hq; exact h1
    | 2, hq => cases hq; exact h2
    | 3, hq => cases hq; exact h3
    | 4, hq => cases hq; exact h4
    | 5, hq => cases hq; exact h5
    | 6, hq => cases hq; exact h6
    | 7, hq => cases hq; exact h7
    | 8, hq => cases hq; exact h8
    | 9, hq => cases hq; exact h9
    | 10, hq => cases hq; exact h10
    | 11, hq => cases hq; exact h11
    | 12, hq => cases hq; exact h12
    | k + 13, hq => simp [vwCl] at hq
  · intro k q hq
    match k, hq with
    | 0, hq => cases hq; exact ⟨p0, q0⟩
    | 1, hq => cases hq; exact ⟨p1, q1⟩
    | 2, hq => cases hq; exact ⟨p0, q0⟩
    | 3, hq => cases hq; exact ⟨p3, q3⟩
    | 4, hq => cases hq; exact ⟨p4, q4⟩
    | 5, hq => cases hq; exact ⟨p5, q5⟩
    | k + 6, hq => simp [ev_tys] at hq
  · intro q hq
    simp only [ev_comp, List.mem_cons, List.not_mem_nil, or_false] at hq
    rcases hq with rfl | rfl | rfl
    · exact ⟨k3, x3.2, y3⟩
    · exact ⟨k4, x4.2, y4⟩
    · exact ⟨k5, x5.2, y5⟩
theorem ev_start {s : State} {args : Array Value} {D : va_G} {cs : Nat → ClassId} {b L : Nat} {xs : Nat → Int32} (hK : va_K D vwCl (ev_tys cs) s) (hRa : ev_Ra cs s) (hX : va_X b L xs s s.heap) (hbl : b < s.heap.size) (hts : ∀ w ∈ lw_tbl, w.before args s = true) (hgv : (Jvm.Cond.and given_1 narrow_1).before args s = true) : ev_Sr D vwCl cs (fun _ => b) lw_n (lw_q (L, xs)) (fun q => s.heap.size ≤ q) s := by
  have hf := flat_of_before _ hgv
  exact ⟨hK, fun q h => h, fun w hw => ⟨lwn_nest w hw, va_Nw.of (ev_nestw_on (lwn_nest w hw)) (hts w (lwn_in w hw))⟩, vx_Zqof (hts _ (by decide +kernel)) (hts _ (by decide +kernel)) (hf _ (by decide +kernel)) (fun a h => Nat.not_le.mpr h), vx_Zqof (hts _ (by decide +kernel)) (hts _ (by decide +kernel)) (hf _ (by decide +kernel)) (fun a h => Nat.not_le.mpr h), fun q hq => absurd hq List.not_mem_nil, fun q hq => absurd hq List.not_mem_nil, hX, hbl, Nat.not_le.mpr hbl, hRa, fun t ht => by
    simp only [ev_aos, List.mem_cons, List.not_mem_nil, or_false] at ht
    rcases ht with rfl | rfl | rfl
    · exact ev_AO.of (hts _ (List.mem_of_getElem? (i := 1335) (by decide +kernel)))
    · exact ev_AO.of (hts _ (List.mem_of_getElem? (i := 1337) (by decide +kernel)))
    · exact ev_AO.of (hts _ (List.mem_of_getElem? (i := 1339) (by decide +kernel)))⟩
def R_law : String := "LinkHarbourLaw"
def lw_P (b : Addr) (xs : List Int32) (args : Array Value) (s : State) : Prop := args = #[.ref b] ∧ s.IntsAt b xs ∧ xs.length ≤ 260 ∧ (Jvm.Cond.and given_1 narrow_1).before args s = true
def lw_Q (_ : Array Value) (s : State) (o : Outcome) (t : State) : Prop := o = .returned (some (.int 1)) ∧ Framed s o t [] 600104 7301314
def lw_Z (below : List Frame) (a : Array Value) (s : State) : State → Prop := fun t => ∃ o, t.status = .running ∧ Ended t below o ∧ lw_Q a s o t
/-- the law's own end, with 1 on the stack, nothing written that was there before, its room as the claim has it -/
theorem lw_ret {p : Program} {l : Launch} {e : Env} {s : State} {m : MethodId} {below : List Frame} {meth : Method} {c : Code} {b : Nat} (hx : p.tables.exec = Jvm.exec) (hb : c.code = code) (hr : meth.sig.returnType = ret) (hlocks : meth.locks = false) {pc : Nat} {H : Heap} {ls : Array Slot} (hdg : decode code pc = .ok (.ireturn, 1)) : W p l e room_1 s m #[Value.ref b] below meth c H [] 600104 7301314 (lw_Z below #[Value.ref b] s) (F0 m pc ls [.int 1]) := by
  intro T hT X
  obtain ⟨fs, hret, hrun, hended, hW, hframe⟩ := X.leave (v := some (.int 1)) (hlocks := hlocks) (fun h => by rw [hr] at h; cases h)
  have hmeth' : T.vm.method? m = some meth := X.method'
  refine ⟨T.setFrames fs, ?_, .returned (some (.int 1)), hrun, hended, rfl, ⟨_, rfl⟩, hW, hframe⟩
  jvm_step X.here [X.here.top, hx, hb, hdg, hmeth', hr, ret, narrow_b1]
  (try refine ⟨rfl, ?_⟩); (try refine ⟨rfl, ?_⟩)
  first | (intro acts; rw [hret _ acts rfl rfl rfl]) | rw [hret _ _ rfl rfl rfl]
  exact Steps.refl _
/-- what holds at the law's entry: the machine, the code, the tables' words (any of lw_tbl by 'hts w (by decide +kernel)'), the script of L ints xs at the cell b, what the Statement gives of the start (any of its parts by flat_of_before) -/
def lw_At (p : Program) (s : State) (m : MethodId) (meth : Method) (c : Code) (b L : Nat) (xs : Nat → Int32) : Prop :=
  p.tables.exec = Jvm.exec ∧ c.code = code ∧ meth.sig.returnType = ret ∧ c.maxLocals = 17 ∧ s.vm.findClass R_law = some m.cls ∧ (∀ w ∈ lw_tbl, w.before #[Value.ref b] s = true) ∧ va_X b L xs s s.heap ∧ b < s.heap.size ∧ meth.locks = false ∧ (Jvm.Cond.and given_1 narrow_1).before #[Value.ref b] s = true

/-- a run of the evaluator from the law's entry, within the room, is a walk of the law -/
theorem law_start {p : Program} {e : Env} {s : State} {m : MethodId} {below : List Frame} {meth : Method} {c : Code} (l : Launch) (hflags : l.flags = flags0) {b L : Nat} {xs : Nat → Int32} (C0 : lw_At p s m meth c b L xs) {FU d fu : Nat} {hs' : EH}
    (hrun : ev_run g_law (ev_call mt (pg (L, xs)) fu d) FU (0, [(0, .float 0)], []) ([], 0, 0) = some (.inl (some (.int 1)), hs')) (h1 : hs'.2.1 ≤ 600104) (h2 : hs'.2.2 ≤ 7301314) (hd : d ≤ 10) :
    W p l e room_1 s m #[Value.ref b] below meth c s.heap [] 0 0 (lw_Z below #[Value.ref b] s) (entryFrame m ([Value.ref b] : List Value).toArray 17) := by
  obtain ⟨hx, hb, hr, hml, hown, hts, hX, hbl, hlocks, hgv⟩ := id C0
  have hlt : l.stackTraces = false := by unfold Launch.stackTraces; rw [hflags]; decide
  have htg : ∀ w ∈ lw_g, w.before #[Value.ref b] s = true := fun w hw => hts w (lwg_in w hw)
  obtain ⟨D, cs, hK, hRa⟩ := ev_classes htg hts
  have hSr := ev_start hK hRa hX hbl hts hgv
  have hcall := ev_depth (l := l) (mt := mt) (Tg := lw_g) (Tn := lw_n) (Tq := lw_q (L, xs)) (cl := vwCl) (pg := pg (L, xs)) (isI := isIt) hlt (fun y => (allk (L, xs) y).1) (fun y => (allk (L, xs) y).2.1) (fun y => (allk (L, xs) y).2.2) D cs (fun _ => b) (fun q => s.heap.size ≤ q) fu d room_1 (by show ev_fr d + 1 ≤ 11; unfold ev_fr; omega) (by show 36 + ev_lw d ≤ 402; unfold ev_lw; omega)
  have hG := ev_run_ok (k_law _ (L, xs) d) (p := p) (l := l) (e := e) (R := room_1) (s := s) (m := m) (args := #[Value.ref b]) (below := below) (meth := meth) (c := c) (Q := lw_Z below #[Value.ref b] s) (D := D) (cs := cs) (ox := fun _ => b) (A := fun q => s.heap.size ≤ q) (al0 := []) (k0 := 0) (n0 := 0) (call := ev_call mt (pg (L, xs)) fu d) (o := .inl (some (.int 1))) (hs' := hs')
    ⟨⟨hx, hb, hml, hown, htg⟩, hSr, rfl, (show hs'.2.1 - 0 ≤ 600104 by omega), (show hs'.2.2 - 0 ≤ 7301314 by omega)⟩ (fun h => by cases h) hcall (fun v hv => ?_) (fun E hE => by cases hE) FU _ _ hrun (Nat.zero_le _) (Nat.zero_le _)
  · have hl := lv_entry ([.ref b]) (n := 17) (Nat.le_of_ble_eq_true rfl)
    have hW := hG.2.2 [] s.heap [] _ ⟨List.prefix_refl _, rfl, (fun k q h => by simp [ev_w] at h), ⟨fun i j p q h => by simp [ev_w] at h, fun k q h => by simp [ev_w] at h⟩, va_S.rf, fun e he => by cases he⟩ (fun q hq => by rw [List.mem_singleton.mp hq]; trivial) (fun v hv => by cases hv) hl
    rw [lg_entry_eq]
    exact hW
  · cases hv
    intro al H locs ls pc ig w wv hg hdg q1 q2
    cases hg
    refine va_forget (fun q hq => w.2.2.2.2.1.2.2 q hq) ?_
    refine W.widen (k := 600104) (n := 7301314) (by omega) (by omega) ?_
    exact lw_ret hx hb hr hlocks hdg
