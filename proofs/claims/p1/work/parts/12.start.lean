theorem lwn_in : ∀ w ∈ lw_n, w ∈ lw_tbl := by decide +kernel
theorem lwn_nest : ∀ w ∈ lw_n, ev_nestw w = true := by decide +kernel
theorem lwg_in : ∀ w ∈ lw_g, w ∈ lw_tbl := fun w h => (List.mem_filter.mp h).1
theorem ev_arrOf {args : Array Value} {s : State} {ty : FieldType} (hp : va_RA = va_RA) (h : (Cond.arrayClass ty).before args s = true) (hty : ∀ cA, s.vm.findClass ("[" ++ ty.toString) = some cA → va_RA s cA ty) : ∃ cA : ClassId, ArrOfT s cA ty ∧ va_RA s cA ty := by
  obtain ⟨cA, kA, comp, h1, h2, h3⟩ := Cond.arrayClass_spec h
  exact ⟨cA, fun n z => ⟨fun k h => (by cases h), kA, h2, comp, h3⟩, hty cA h1⟩
theorem lwq_in : ∀ q ∈ lw_q.1, Cond.stringRef q.1 q.2.1 q.2.2 ∈ lw_tbl := by decide +kernel
theorem lwq_ex : ∀ q ∈ lw_q.1, Cond.exactly (.string q.1 q.2.1) "java/lang/String" ∈ flatC (Jvm.Cond.and given_1 narrow_1) := by decide +kernel
theorem lwq_nc : ∀ q ∈ lw_q.2, Cond.not (.castable q.1 q.2) ∈ flatC (Jvm.Cond.and given_1 narrow_1) := by decide +kernel
theorem ev_classes {s : State} {args : Array Value} (hts : ∀ w ∈ lw_g, w.before args s = true) : ∃ (D : va_G) (cs : Nat → ClassId), va_K D vwCl (ev_tys cs) s := by
  obtain ⟨c0, i0, h0⟩ := u_known (C := RX0) (T := TX0) (N := 2) (n := 2) hts inGX0 (hts _ w_276)
  obtain ⟨c1, i1, h1⟩ := u_known (C := RX1) (T := TX1) (N := 1) (n := 1) hts inGX1 (hts _ w_260)
  obtain ⟨c2, i2, h2⟩ := u_known (C := RX2) (T := TX2) (N := 3) (n := 3) hts inGX2 (hts _ w_189)
  obtain ⟨c3, i3, h3⟩ := u_known (C := RX3) (T := TX3) (N := 13) (n := 13) hts inGX3 (hts _ w_392)
  obtain ⟨c4, i4, h4⟩ := u_known (C := RX4) (T := TX4) (N := 16) (n := 16) hts inGX4 (hts _ w_205)
  obtain ⟨c5, i5, h5⟩ := u_known (C := RX5) (T := TX5) (N := 9) (n := 9) hts inGX5 (hts _ w_270)
  obtain ⟨c6, i6, h6⟩ := u_known (C := RX6) (T := TX6) (N := 10) (n := 10) hts inGX6 (hts _ w_116)
  obtain ⟨c7, i7, h7⟩ := u_known (C := RX7) (T := TX7) (N := 9) (n := 9) hts inGX7 (hts _ w_358)
  obtain ⟨c8, i8, h8⟩ := u_known (C := RX8) (T := TX8) (N := 9) (n := 9) hts inGX8 (hts _ w_154)
  obtain ⟨c9, i9, h9⟩ := u_known (C := RX9) (T := TX9) (N := 10) (n := 10) hts inGX9 (hts _ w_317)
  obtain ⟨c10, i10, h10⟩ := u_known (C := RX10) (T := TX10) (N := 7) (n := 7) hts inGX10 (hts _ w_289)
  obtain ⟨c11, i11, h11⟩ := u_known (C := RX11) (T := TX11) (N := 9) (n := 9) hts inGX11 (hts _ w_108)
  obtain ⟨c12, i12, h12⟩ := u_known (C := RX12) (T := TX12) (N := 25) (n := 25) hts inGX12 (hts _ w_1765)
  obtain ⟨c13, i13, h13⟩ := u_known (C := RX13) (T := TX13) (N := 30) (n := 30) hts inGX13 (hts _ w_1554)
  obtain ⟨a0, p0, q0⟩ := ev_arrOf rfl (hts _ w_152) (fun cA h => h)
  obtain ⟨a1, p1, q1⟩ := ev_arrOf rfl (hts _ w_187) (fun cA h => h)
  obtain ⟨a2, p2, q2⟩ := ev_arrOf rfl (hts _ w_2102) (fun cA h => h)
  refine ⟨(fun k => match k with | 0 => c0 | 1 => c1 | 2 => c2 | 3 => c3 | 4 => c4 | 5 => c5 | 6 => c6 | 7 => c7 | 8 => c8 | 9 => c9 | 10 => c10 | 11 => c11 | 12 => c12 | 13 => c13 | _ => c0, fun k => match k with | 0 => i0 | 1 => i1 | 2 => i2 | 3 => i3 | 4 => i4 | 5 => i5 | 6 => i6 | 7 => i7 | 8 => i8 | 9 => i9 | 10 => i10 | 11 => i11 | 12 => i12 | 13 => i13 | _ => i0), (fun k => match k with | 0 => a0 | 1 => a1 | _ => a2), ?_, ?_⟩
  · intro k q hq
    match k, hq with
    | 0, hq => cases hq; exact h0
    | 1, hq => cases hq; exact h1
    | 2, hq => cases hq; exact h2
    | 3, hq => cases hq; exact h3
    | 4, hq => cases hq; exact h4
    | 5, hq => cases hq; exact h5
    | 6, hq => cases hq; exact h6
    | 7, hq => cases hq; exact h7
    | 8, hq => cases hq; exact h8
    | 9, hq => cases hq; exact h9
    | 10, hq => cases hq; exact h10
    | 11, hq => cases hq; exact h11
    | 12, hq => cases hq; exact h12
    | 13, hq => cases hq; exact h13
    | k + 14, hq => simp [vwCl] at hq
  · intro k q hq
    match k, hq with
    | 0, hq => cases hq; exact ⟨p0, q0⟩
    | 1, hq => cases hq; exact ⟨p1, q1⟩
    | 2, hq => cases hq; exact ⟨p2, q2⟩
    | k + 3, hq => simp [ev_tys] at hq
theorem ev_start {s : State} {args : Array Value} {D : va_G} {cs : Nat → ClassId} (hK : va_K D vwCl (ev_tys cs) s) (hts : ∀ w ∈ lw_tbl, w.before args s = true) (hgv : (Jvm.Cond.and given_1 narrow_1).before args s = true) : ev_Sr D vwCl cs lw_n lw_q (fun q => s.heap.size ≤ q) s := by
  have hf := flat_of_before _ hgv
  refine ⟨hK, fun q h => h, fun w hw => ⟨lwn_nest w hw, va_Nw.of (ev_nestw_on (lwn_nest w hw)) (hts w (lwn_in w hw))⟩, vx_Zqof (hts _ (by decide +kernel)) (hts _ (by decide +kernel)) (hf _ (by decide +kernel)) (fun a h => Nat.not_le.mpr h), vx_Zqof (hts _ (by decide +kernel)) (hts _ (by decide +kernel)) (hf _ (by decide +kernel)) (fun a h => Nat.not_le.mpr h), ?_, ?_⟩
  · intro q hq
    have hq1 : Cond.stringRef q.1 q.2.1 q.2.2 ∈ lw_tbl := lwq_in q hq
    have hq2 : Cond.exactly (.string q.1 q.2.1) "java/lang/String" ∈ flatC (Jvm.Cond.and given_1 narrow_1) := lwq_ex q hq
    obtain ⟨a, c, cell, k, h1, -⟩ := Cond.exactly_spec (args := args) (first := s) (o := none) (s := s) (idx := []) (hf _ hq2)
    exact ⟨a, vk_R.of (hts _ hq1) h1⟩
  · intro q hq
    exact va_Nc.of (hf _ (lwq_nc q hq))
def R_law : String := "LinkHarbourLaw"
def lw_P (b : Addr) (xs : List Int32) (args : Array Value) (s : State) : Prop := args = #[.ref b] ∧ s.IntsAt b xs ∧ xs.length ≤ 5 ∧ (Jvm.Cond.and given_1 narrow_1).before args s = true
/-- what a walk over the start with the record d0 says of its end, said of the start itself -/
theorem lw_closed {s t : State} {o : Outcome} {d0 : Drawn} {L : List Loc} {k n : Nat} (hd0 : s.drawn.sameBut d0 lw_cs) (hv : ∃ v, o = .returned v) (hW : (s.setDrawn d0).WarmedH t.vm) (hs : (s.setDrawn d0).sameButNew ({ t with vm := s.vm } : State) L k n) : State.butDraws s t lw_cs (fun t1 => Framed s o t1 L k n) := by
  have h2 : t.drawn = d0 := congrArg State.drawn hs.1
  refine ⟨⟨hv, hW, State.sameButNew.setDrawn hs s.drawn⟩, ?_, by decide⟩
  rw [h2]
  exact hd0
def lw_Q (_ : Array Value) (s : State) (o : Outcome) (t : State) : Prop := o = .returned (some (.int 1)) ∧ State.butDraws s t lw_cs (fun t1 => Framed s o t1 [] 600002 7302231)
def lw_Z (below : List Frame) (a : Array Value) (s : State) : State → Prop := fun t => ∃ o, t.status = .running ∧ Ended t below o ∧ lw_Q a s o t
/-- the law's own end, with 1 on the stack, nothing written that was there before, its room as the claim has it; d0: the record of draws at this point (at the entry s.drawn: begin with 'refine W.base ?_' and 'have hd0 := Drawn.sameBut.refl s.drawn lw_cs') -/
theorem lw_ret {p : Program} {l : Launch} {e : Env} {s : State} {m : MethodId} {below : List Frame} {meth : Method} {c : Code} {b : Nat} {d0 : Drawn} (hd0 : s.drawn.sameBut d0 lw_cs) (hx : p.tables.exec = Jvm.exec) (hb : c.code = code) (hr : meth.sig.returnType = ret) (hlocks : meth.locks = false) {pc : Nat} {H : Heap} {ls : Array Slot} (hdg : decode code pc = .ok (.ireturn, 1)) : W p l e room_1 (s.setDrawn d0) m #[Value.ref b] below meth c H [] 600002 7302231 (lw_Z below #[Value.ref b] s) (F0 m pc ls [.int 1]) := by
  intro T hT X
  obtain ⟨fs, hret, hrun, hended, hW, hframe⟩ := X.leave (v := some (.int 1)) (hlocks := hlocks) (fun h => by rw [hr] at h; cases h)
  have hmeth' : T.vm.method? m = some meth := X.method'
  refine ⟨T.setFrames fs, ?_, .returned (some (.int 1)), hrun, hended, rfl, lw_closed hd0 ⟨_, rfl⟩ hW hframe⟩
  jvm_step X.here [X.here.top, hx, hb, hdg, hmeth', hr, ret, narrow_b1]
  (try refine ⟨rfl, ?_⟩); (try refine ⟨rfl, ?_⟩)
  first | (intro acts; rw [hret _ acts rfl rfl rfl]) | rw [hret _ _ rfl rfl rfl]
  exact Steps.refl _
/-- what holds at the law's entry: the machine, the code, the tables' words (any of lw_tbl by 'hts w (by decide +kernel)'), the script of L ints xs at the cell b, what the Statement gives of the start (any of its parts by flat_of_before) -/
def lw_At (p : Program) (s : State) (m : MethodId) (meth : Method) (c : Code) (b L : Nat) (xs : Nat → Int32) : Prop :=
  p.tables.exec = Jvm.exec ∧ c.code = code ∧ meth.sig.returnType = ret ∧ c.maxLocals = 9 ∧ s.vm.findClass R_law = some m.cls ∧ (∀ w ∈ lw_tbl, w.before #[Value.ref b] s = true) ∧ va_X b L xs s s.heap ∧ b < s.heap.size ∧ meth.locks = false ∧ (Jvm.Cond.and given_1 narrow_1).before #[Value.ref b] s = true

/-- a run of the evaluator from the law's entry, within the room, is a walk of the law -/
theorem law_start {p : Program} {e : Env} {s : State} {m : MethodId} {below : List Frame} {meth : Method} {c : Code} (l : Launch) (hflags : l.flags = flags0) {b L : Nat} {xs : Nat → Int32} (C0 : lw_At p s m meth c b L xs) {FU d fu : Nat} {hs' : EH}
    (hrun : ev_run (g_law xs L) (ev_call mt pg fu d) FU (0, [(0, .float 0)], []) ([], 0, 0) = some (.inl (some (.int 1)), hs')) (h1 : hs'.2.1 ≤ 600002) (h2 : hs'.2.2 ≤ 7302231) (hd : d ≤ 1000) :
    W p l e room_1 s m #[Value.ref b] below meth c s.heap [] 0 0 (lw_Z below #[Value.ref b] s) (entryFrame m ([Value.ref b] : List Value).toArray 9) := by
  obtain ⟨hx, hb, hr, hml, hown, hts, hX, hbl, hlocks, hgv⟩ := id C0
  have hlt : l.stackTraces = false := by unfold Launch.stackTraces; rw [hflags]; decide
  have htg : ∀ w ∈ lw_g, w.before #[Value.ref b] s = true := fun w hw => hts w (lwg_in w hw)
  obtain ⟨D, cs, hK⟩ := ev_classes htg
  have hSr := ev_start hK hts hgv
  have hcall := ev_depth (l := l) (mt := mt) (Tg := lw_g) (Tn := lw_n) (Tq := lw_q) (cl := vwCl) (pg := pg) (isI := isIt) hlt (fun y => (allk y).1) (fun y => (allk y).2.1) (fun y => (allk y).2.2) D cs (fun _ => b) (fun q => s.heap.size ≤ q) fu d room_1 (by show ev_fr d + 1 ≤ 2048; unfold ev_fr; omega) (by show 64 + ev_lw d ≤ 84000; unfold ev_lw; omega)
  have hG := ev_run_okL (k_law _ b L d xs) (p := p) (l := l) (e := e) (R := room_1) (s := s) (m := m) (args := #[Value.ref b]) (below := below) (meth := meth) (c := c) (Q := lw_Z below #[Value.ref b] s) (D := D) (cs := cs) (ox := fun _ => b) (A := fun q => s.heap.size ≤ q) (al0 := []) (k0 := 0) (n0 := 0) (call := ev_call mt pg fu d) (o := .inl (some (.int 1))) (hs' := hs')
    ⟨fun _ => rfl, hX, hbl, Nat.not_le.mpr hbl⟩ ⟨⟨hx, hb, hml, hown, htg⟩, hSr, rfl, (show hs'.2.1 - 0 ≤ 600002 by omega), (show hs'.2.2 - 0 ≤ 7302231 by omega)⟩ (fun h => by cases h) hcall (fun v hv => ?_) (fun E hE => by cases hE) FU _ _ hrun (Nat.zero_le _) (Nat.zero_le _)
  · have hl := lv_entry ([.ref b]) (n := 9) (Nat.le_of_ble_eq_true rfl)
    have hW := hG.2.2 [] s.heap [] _ ⟨List.prefix_refl _, rfl, (fun k q h => by simp [ev_w] at h), ⟨fun i j p q h => by simp [ev_w] at h, fun k q h => by simp [ev_w] at h⟩, va_S.rf, fun e he => by cases he⟩ (fun q hq => by rw [List.mem_singleton.mp hq]; trivial) (fun v hv => by cases hv) hl
    rw [lg_entry_eq]
    exact hW
  · cases hv
    intro al H locs ls pc ig w wv hg hdg q1 q2
    cases hg
    refine va_forget (fun q hq => w.2.2.2.2.1.2.2 q hq) ?_
    refine W.widen (k := 600002) (n := 7302231) (by omega) (by omega) ?_
    exact lw_ret (d0 := s.drawn) (Drawn.sameBut.refl s.drawn lw_cs) hx hb hr hlocks hdg
