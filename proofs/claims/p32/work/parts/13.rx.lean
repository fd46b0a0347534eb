/-! runs whose fuel isn't told: Rx (from a frame to the end of its method), Rc (a call); r: the depth that is needed -/
theorem ev_at_of {vs : List Value} {i : Int32} {j : Nat} {v : Value} (hn : ¬ i < 0) (hi : i.toNatClampNeg = j) (hv : vs[j]? = some v) : ev_at vs i = some v := by
  unfold ev_at; rw [if_neg hn, hi]; exact hv
theorem ev_finx {ret : Option FieldType} {he : Bool} {hs h1 : EH} {v : Option Value} (a : ev_rok ret v = true) (b : Nat.ble hs.2.1 h1.2.1 = true) (c : Nat.ble hs.2.2 h1.2.2 = true) : ev_fin ret he hs (some (.inl v, h1)) = some (.inl v, h1) := by
  show (bif ev_rok ret v && (Nat.ble hs.2.1 h1.2.1 && Nat.ble hs.2.2 h1.2.2) then some (Sum.inl v, h1) else none) = _
  rw [a, b, c]; rfl
theorem q_recv {b c : Nat} {f r : List Value} {h : List EC} (hb : h[b]? = some (.inr c, f)) : ev_recv (some c) (.ref b :: r) h = true := by
  show (match h[b]? with
      | some (.inr c', _) => Nat.beq c' c
      | _ => false) = true
  rw [hb]; exact Nat.beq_refl c
def Rx (sc : Nat × (Nat → Int32)) (code : Nat → EA) (r : Nat) (f : EF) (h : EH) (o : Option Value) (h' : EH) : Prop :=
  ∃ N F, ∀ fu, F ≤ fu → ∀ d, r ≤ d → ∀ m, ev_run code (ev_call mt (pg sc) fu d) (m + N) f h = some (.inl o, h')
def Rc (sc : Nat × (Nat → Int32)) (r y : Nat) (av : List Value) (h : EH) (o : Option Value) (h' : EH) : Prop :=
  ∃ F, ∀ fu, F ≤ fu → ∀ d, r ≤ d → ev_call mt (pg sc) fu d y av h = some (.inl o, h')
section RX
variable {sc : Nat × (Nat → Int32)} {code : Nat → EA} {r pc p' : Nat} {lo l' : List (Nat × Value)} {st s' : List Value} {h h' h1 : EH} {o : Option Value} {f : EF}
/-- k steps that the text of the code alone decides -/
theorem rx_k (k : Nat) (f1 : EF) (hs : ∀ call m, ev_run code call (m + k) f h = ev_run code call m f1 h) (hx : Rx sc code r f1 h o h') : Rx sc code r f h o h' := by
  obtain ⟨N, F, hx⟩ := hx
  exact ⟨N + k, F, fun fu hf d hd m => by rw [← Nat.add_assoc]; exact (hs _ _).trans (hx fu hf d hd m)⟩
theorem rx_1 {f1 : EF} (hs : ∀ call kont, code f.1 call kont f h = kont f1 h1) (hx : Rx sc code r f1 h1 o h') : Rx sc code r f h o h' := by
  obtain ⟨N, F, hx⟩ := hx
  exact ⟨N + 1, F, fun fu hf d hd m => (hs _ _).trans (hx fu hf d hd m)⟩
theorem rx_ifT {t : Nat} {b : Int32 → Bool} {x : Int32} (hc : code pc = a_if t b) (hb : b x = true) (hx : Rx sc code r (t, lo, st) h o h') : Rx sc code r (pc, lo, .int x :: st) h o h' :=
  rx_1 (fun call kont => by
    show code pc call kont (pc, lo, .int x :: st) h = _
    rw [hc]
    show (bif b x then kont (t, lo, st) h else kont (pc + 3, lo, st) h) = _
    rw [hb]; rfl) hx
theorem rx_ifF {t : Nat} {b : Int32 → Bool} {x : Int32} (hc : code pc = a_if t b) (hb : b x = false) (hp : pc + 3 = p') (hx : Rx sc code r (p', lo, st) h o h') : Rx sc code r (pc, lo, .int x :: st) h o h' :=
  rx_1 (fun call kont => by
    show code pc call kont (pc, lo, .int x :: st) h = _
    rw [hc]
    show (bif b x then kont (t, lo, st) h else kont (pc + 3, lo, st) h) = _
    rw [hb, hp]; rfl) hx
theorem rx_icT {t : Nat} {b : Int32 → Int32 → Bool} {x y : Int32} (hc : code pc = a_ic t b) (hb : b x y = true) (hx : Rx sc code r (t, lo, st) h o h') : Rx sc code r (pc, lo, .int y :: .int x :: st) h o h' :=
  rx_1 (fun call kont => by
    show code pc call kont (pc, lo, .int y :: .int x :: st) h = _
    rw [hc]
    show (bif b x y then kont (t, lo, st) h else kont (pc + 3, lo, st) h) = _
    rw [hb]; rfl) hx
theorem rx_icF {t : Nat} {b : Int32 → Int32 → Bool} {x y : Int32} (hc : code pc = a_ic t b) (hb : b x y = false) (hp : pc + 3 = p') (hx : Rx sc code r (p', lo, st) h o h') : Rx sc code r (pc, lo, .int y :: .int x :: st) h o h' :=
  rx_1 (fun call kont => by
    show code pc call kont (pc, lo, .int y :: .int x :: st) h = _
    rw [hc]
    show (bif b x y then kont (t, lo, st) h else kont (pc + 3, lo, st) h) = _
    rw [hb, hp]; rfl) hx
theorem rx_iiN {g : Int32 → Int32 → Int32} {x y z : Int32} (hc : code pc = a_iiN g) (hp : pc + 1 = p') (hy : ¬ y = 0) (hz : g x y = z) (hx : Rx sc code r (p', lo, .int z :: st) h o h') : Rx sc code r (pc, lo, .int y :: .int x :: st) h o h' :=
  rx_1 (fun call kont => by
    show code pc call kont (pc, lo, .int y :: .int x :: st) h = _
    rw [hc]
    show (if y = 0 then none else kont (pc + 1, lo, .int (g x y) :: st) h) = _
    rw [if_neg hy, hz, hp]) hx
theorem rx_tsw {l : Int} {ts : List Nat} {t : Nat} {x : Int32} (hc : code pc = a_tsw l ts t) (hn : ¬ x.toInt < l) (hq : (ts[(x.toInt - l).toNat]?).getD t = p') (hx : Rx sc code r (p', lo, st) h o h') : Rx sc code r (pc, lo, .int x :: st) h o h' :=
  rx_1 (fun call kont => by
    show code pc call kont (pc, lo, .int x :: st) h = _
    rw [hc]
    show (if x.toInt < l then kont (t, lo, st) h else match ts[(x.toInt - l).toNat]? with
      | some t1 => kont (t1, lo, st) h
      | none => kont (t, lo, st) h) = _
    rw [if_neg hn, ← hq]
    cases ts[(x.toInt - l).toNat]? <;> rfl) hx
theorem rx_ri {x : Int32} (hc : code pc = a_iret) : Rx sc code r (pc, lo, [.int x]) h (some (.int x)) h :=
  ⟨1, 0, fun fu _ d _ m => by show code pc _ _ (pc, lo, [.int x]) h = _; rw [hc]; rfl⟩
theorem rx_rl {x : Int64} (hc : code pc = a_lret) : Rx sc code r (pc, lo, [.long x]) h (some (.long x)) h :=
  ⟨1, 0, fun fu _ d _ m => by show code pc _ _ (pc, lo, [.long x]) h = _; rw [hc]; rfl⟩
theorem rx_ra {x : Nat} (hc : code pc = a_aret) : Rx sc code r (pc, lo, [.ref x]) h (some (.ref x)) h :=
  ⟨1, 0, fun fu _ d _ m => by show code pc _ _ (pc, lo, [.ref x]) h = _; rw [hc]; rfl⟩
theorem rx_rv (hc : code pc = a_vret) : Rx sc code r (pc, lo, []) h none h :=
  ⟨1, 0, fun fu _ d _ m => by show code pc _ _ (pc, lo, []) h = _; rw [hc]; rfl⟩
theorem rx_getf {ci kf a : Nat} {fs : List Value} {v : Value} (hc : code pc = a_getf ci kf) (hp : pc + 3 = p') (hcell : h.1[a]? = some (.inr ci, fs)) (hf : fs[kf]? = some v) (hx : Rx sc code r (p', lo, v :: st) h o h') : Rx sc code r (pc, lo, .ref a :: st) h o h' :=
  rx_1 (fun call kont => by
    show code pc call kont (pc, lo, .ref a :: st) h = _
    rw [hc]
    show (match h.1[a]? with
      | some (.inr c, fs) => bif Nat.beq c ci then (match fs[kf]? with
        | some v => kont (pc + 3, lo, v :: st) h
        | none => none) else none
      | _ => none) = _
    rw [hcell]
    show (bif Nat.beq ci ci then (match fs[kf]? with
        | some v => kont (pc + 3, lo, v :: st) h
        | none => none) else none) = _
    rw [show Nat.beq ci ci = true from Nat.beq_refl ci, hf, hp]; rfl) hx
theorem rx_putf {ty ci kf a : Nat} {fs : List Value} {v : Value} (hc : code pc = a_putf ty ci kf) (hp : pc + 3 = p') (hcell : h.1[a]? = some (.inr ci, fs)) (hg : (ev_fit ty v && decide (kf < fs.length)) = true) (hh : (h.1.set a (.inr ci, fs.set kf v), h.2) = h1) (hx : Rx sc code r (p', lo, st) h1 o h') : Rx sc code r (pc, lo, v :: .ref a :: st) h o h' :=
  rx_1 (fun call kont => by
    show code pc call kont (pc, lo, v :: .ref a :: st) h = _
    rw [hc]
    show (match h.1[a]? with
      | some (.inr c, fs) => bif Nat.beq c ci && (ev_fit ty v && decide (kf < fs.length)) then kont (pc + 3, lo, st) (h.1.set a (.inr c, fs.set kf v), h.2) else none
      | _ => none) = _
    rw [hcell]
    show (bif Nat.beq ci ci && (ev_fit ty v && decide (kf < fs.length)) then kont (pc + 3, lo, st) (h.1.set a (.inr ci, fs.set kf v), h.2) else none) = _
    rw [show Nat.beq ci ci = true from Nat.beq_refl ci, hg, hh, hp]; rfl) hx
theorem rx_ild {t a : Nat} {i x : Int32} {vs : List Value} (hc : code pc = a_ild t) (hp : pc + 1 = p') (hcell : h.1[a]? = some (.inl t, vs)) (hv : ev_at vs i = some (.int x)) (hx : Rx sc code r (p', lo, .int x :: st) h o h') : Rx sc code r (pc, lo, .int i :: .ref a :: st) h o h' :=
  rx_1 (fun call kont => by
    show code pc call kont (pc, lo, .int i :: .ref a :: st) h = _
    rw [hc]
    show (match h.1[a]? with
      | some (.inl t', vs) => bif Nat.beq t' t then (match ev_at vs i with
        | some (.int x) => kont (pc + 1, lo, .int x :: st) h
        | _ => none) else none
      | _ => none) = _
    rw [hcell]
    show (bif Nat.beq t t then (match ev_at vs i with
        | some (.int x) => kont (pc + 1, lo, .int x :: st) h
        | _ => none) else none) = _
    rw [show Nat.beq t t = true from Nat.beq_refl t, hv, hp]; rfl) hx
theorem rx_ist {t a : Nat} {i x : Int32} {vs : List Value} {v : Value} (hc : code pc = a_ist t) (hp : pc + 1 = p') (hcell : h.1[a]? = some (.inl t, vs)) (hfit : ev_fit t (.int x) = true) (hv : ev_at vs i = some v) (hh : (h.1.set a (.inl t, vs.set i.toNatClampNeg (.int x)), h.2) = h1) (hx : Rx sc code r (p', lo, st) h1 o h') : Rx sc code r (pc, lo, .int x :: .int i :: .ref a :: st) h o h' :=
  rx_1 (fun call kont => by
    show code pc call kont (pc, lo, .int x :: .int i :: .ref a :: st) h = _
    rw [hc]
    show (match h.1[a]? with
      | some (.inl t', vs) => bif Nat.beq t' t && ev_fit t (.int x) then (match ev_at vs i with
        | some _ => kont (pc + 1, lo, st) (h.1.set a (.inl t', vs.set i.toNatClampNeg (.int x)), h.2)
        | _ => none) else none
      | _ => none) = _
    rw [hcell]
    show (bif Nat.beq t t && ev_fit t (.int x) then (match ev_at vs i with
        | some _ => kont (pc + 1, lo, st) (h.1.set a (.inl t, vs.set i.toNatClampNeg (.int x)), h.2)
        | _ => none) else none) = _
    rw [show Nat.beq t t = true from Nat.beq_refl t, hfit, hv, hh, hp]; rfl) hx
theorem rx_alen {t a : Nat} {vs : List Value} {z : Int32} (hc : code pc = a_alen) (hp : pc + 1 = p') (hcell : h.1[a]? = some (.inl t, vs)) (ht : Nat.ble t 5 = true) (hz : Int32.ofNat vs.length = z) (hx : Rx sc code r (p', lo, .int z :: st) h o h') : Rx sc code r (pc, lo, .ref a :: st) h o h' :=
  rx_1 (fun call kont => by
    show code pc call kont (pc, lo, .ref a :: st) h = _
    rw [hc]
    show (match h.1[a]? with
      | some (.inl t, vs) => bif Nat.ble t 5 then kont (pc + 1, lo, .int (Int32.ofNat vs.length) :: st) h else none
      | _ => none) = _
    rw [hcell]
    show (bif Nat.ble t 5 then kont (pc + 1, lo, .int (Int32.ofNat vs.length) :: st) h else none) = _
    rw [ht, hz, hp]; rfl) hx
theorem rx_new {ci m a : Nat} {fs : List Value} (hc : code pc = a_new ci m fs) (hp : pc + 3 = p') (hh : (h.1 ++ [(.inr ci, fs)], h.2.1 + 1, h.2.2 + m) = h1) (ha : h.1.length = a) (hx : Rx sc code r (p', lo, .ref a :: st) h1 o h') : Rx sc code r (pc, lo, st) h o h' :=
  rx_1 (fun call kont => by
    show code pc call kont (pc, lo, st) h = _
    rw [hc]
    show kont (pc + 3, lo, .ref h.1.length :: st) (h.1 ++ [(.inr ci, fs)], h.2.1 + 1, h.2.2 + m) = _
    rw [hh, ha, hp]) hx
theorem rx_newa {t a : Nat} {i : Int32} (hc : code pc = a_newa t) (hp : pc + 2 = p') (hn : ¬ i < 0) (hb : Nat.ble (i.toNatClampNeg * 8) 536870912 = true) (hh : (h.1 ++ [(.inl t, List.replicate i.toNatClampNeg (ev_dv t))], h.2.1 + 1, h.2.2 + i.toNatClampNeg) = h1) (ha : h.1.length = a) (hx : Rx sc code r (p', lo, .ref a :: st) h1 o h') : Rx sc code r (pc, lo, .int i :: st) h o h' :=
  rx_1 (fun call kont => by
    show code pc call kont (pc, lo, .int i :: st) h = _
    rw [hc]
    show (if i < 0 then none else bif Nat.ble (i.toNatClampNeg * 8) 536870912 then
      kont (pc + 2, lo, .ref h.1.length :: st) (h.1 ++ [(.inl t, List.replicate i.toNatClampNeg (ev_dv t))], h.2.1 + 1, h.2.2 + i.toNatClampNeg) else none) = _
    rw [if_neg hn, hb, hh, ha, hp]; rfl) hx
theorem rx_newq {t a : Nat} {i : Int32} (hc : code pc = a_newq t) (hp : pc + 3 = p') (hn : ¬ i < 0) (hb : Nat.ble (i.toNatClampNeg * 8) 536870912 = true) (hh : (h.1 ++ [(.inl t, List.replicate i.toNatClampNeg .null)], h.2.1 + 1, h.2.2 + i.toNatClampNeg) = h1) (ha : h.1.length = a) (hx : Rx sc code r (p', lo, .ref a :: st) h1 o h') : Rx sc code r (pc, lo, .int i :: st) h o h' :=
  rx_1 (fun call kont => by
    show code pc call kont (pc, lo, .int i :: st) h = _
    rw [hc]
    show (if i < 0 then none else bif Nat.ble (i.toNatClampNeg * 8) 536870912 then
      kont (pc + 3, lo, .ref h.1.length :: st) (h.1 ++ [(.inl t, List.replicate i.toNatClampNeg .null)], h.2.1 + 1, h.2.2 + i.toNatClampNeg) else none) = _
    rw [if_neg hn, hb, hh, ha, hp]; rfl) hx
theorem rx_ald {t a x : Nat} {i : Int32} {vs : List Value} (hc : code pc = a_ald) (hp : pc + 1 = p') (hcell : h.1[a]? = some (.inl t, vs)) (ht : (Nat.ble 3 t && Nat.ble t 5) = true) (hv : ev_at vs i = some (.ref x)) (hx : Rx sc code r (p', lo, .ref x :: st) h o h') : Rx sc code r (pc, lo, .int i :: .ref a :: st) h o h' :=
  rx_1 (fun call kont => by
    show code pc call kont (pc, lo, .int i :: .ref a :: st) h = _
    rw [hc]
    show (match h.1[a]? with
      | some (.inl t', vs) => bif Nat.ble 3 t' && Nat.ble t' 5 then (match ev_at vs i with
        | some (.ref x) => kont (pc + 1, lo, .ref x :: st) h
        | _ => none) else none
      | _ => none) = _
    rw [hcell]
    show (bif Nat.ble 3 t && Nat.ble t 5 then (match ev_at vs i with
        | some (.ref x) => kont (pc + 1, lo, .ref x :: st) h
        | _ => none) else none) = _
    rw [ht, hv, hp]; rfl) hx
theorem rx_ast {t tv a x : Nat} {i : Int32} {vs vv : List Value} {v : Value} (hc : code pc = a_ast) (hp : pc + 1 = p') (hcell : h.1[a]? = some (.inl t, vs)) (hcx : h.1[x]? = some (.inl tv, vv)) (ht : ev_isc t tv = true) (hv : ev_at vs i = some v) (hh : (h.1.set a (.inl t, vs.set i.toNatClampNeg (.ref x)), h.2) = h1) (hx : Rx sc code r (p', lo, st) h1 o h') : Rx sc code r (pc, lo, .ref x :: .int i :: .ref a :: st) h o h' :=
  rx_1 (fun call kont => by
    show code pc call kont (pc, lo, .ref x :: .int i :: .ref a :: st) h = _
    rw [hc]
    show (match h.1[a]?, h.1[x]? with
      | some (.inl t', vs), some (.inl tv, _) => bif ev_isc t' tv then (match ev_at vs i with
        | some _ => kont (pc + 1, lo, st) (h.1.set a (.inl t', vs.set i.toNatClampNeg (.ref x)), h.2)
        | _ => none) else none
      | _, _ => none) = _
    rw [hcell, hcx]
    show (bif ev_isc t tv then (match ev_at vs i with
        | some _ => kont (pc + 1, lo, st) (h.1.set a (.inl t, vs.set i.toNatClampNeg (.ref x)), h.2)
        | _ => none) else none) = _
    rw [ht, hv, hh, hp]; rfl) hx
theorem rx_cpq {t a b : Nat} {n : Int32} {v0 v1 : List Value} (hc : code pc = a_cpq) (hp : pc + 3 = p') (hca : h.1[a]? = some (.inl t, v0)) (hcb : h.1[b]? = some (.inl t, v1)) (ht : (Nat.ble 3 t && Nat.ble t 5) = true) (hn : 0 ≤ n) (h0 : n.toNatClampNeg ≤ v0.length) (h2 : n.toNatClampNeg ≤ v1.length) (hel : ((v0.take n.toNatClampNeg).all (ev_el h.1 t)) = true) (h8 : Nat.ble ((st.map fun (v : Value) => v.category).sum) 8 = true) (hh : (h.1.set b (.inl t, v0.take n.toNatClampNeg ++ v1.drop n.toNatClampNeg), h.2) = h1) (hx : Rx sc code r (p', lo, st) h1 o h') : Rx sc code r (pc, lo, .int n :: .int 0 :: .ref b :: .int 0 :: .ref a :: st) h o h' :=
  rx_1 (fun call kont => by
    show code pc call kont (pc, lo, .int n :: .int 0 :: .ref b :: .int 0 :: .ref a :: st) h = _
    rw [hc]
    show (match h.1[a]?, h.1[b]? with
      | some (.inl t0, v0), some (.inl t1, v1) =>
        bif (Nat.beq t0 t1 && (Nat.ble 3 t0 && Nat.ble t0 5)) && ((decide ((0 : Int32) = 0) && decide ((0 : Int32) = 0)) && (decide (0 ≤ n) && (Nat.ble n.toNatClampNeg v0.length && (Nat.ble n.toNatClampNeg v1.length && (((v0.take n.toNatClampNeg).all (ev_el h.1 t0)) && Nat.ble ((st.map fun (v : Value) => v.category).sum) 8)))))
        then kont (pc + 3, lo, st) (h.1.set b (.inl t1, v0.take n.toNatClampNeg ++ v1.drop n.toNatClampNeg), h.2) else none
      | _, _ => none) = _
    rw [hca, hcb]
    show (bif (Nat.beq t t && (Nat.ble 3 t && Nat.ble t 5)) && ((decide ((0 : Int32) = 0) && decide ((0 : Int32) = 0)) && (decide (0 ≤ n) && (Nat.ble n.toNatClampNeg v0.length && (Nat.ble n.toNatClampNeg v1.length && (((v0.take n.toNatClampNeg).all (ev_el h.1 t)) && Nat.ble ((st.map fun (v : Value) => v.category).sum) 8)))))
        then kont (pc + 3, lo, st) (h.1.set b (.inl t, v0.take n.toNatClampNeg ++ v1.drop n.toNatClampNeg), h.2) else none) = _
    rw [show Nat.beq t t = true from Nat.beq_refl t, ht, decide_eq_true hn, Nat.ble_eq_true_of_le h0, Nat.ble_eq_true_of_le h2, hel, h8, hh, hp]; rfl) hx
theorem rx_sld {i x : Int32} (hc : code pc = a_sld sc) (hp : pc + 1 = p') (hn : ¬ i < 0) (hL : i.toNatClampNeg < sc.1) (hv : sc.2 i.toNatClampNeg = x) (hx : Rx sc code r (p', lo, .int x :: st) h o h') : Rx sc code r (pc, lo, .int i :: .float 0 :: st) h o h' :=
  rx_1 (fun call kont => by
    show code pc call kont (pc, lo, .int i :: .float 0 :: st) h = _
    rw [hc]
    show (bif Nat.beq (0 : UInt32).toNat 0 && (!decide (i < 0) && !Nat.ble sc.1 i.toNatClampNeg) then kont (pc + 1, lo, .int (sc.2 i.toNatClampNeg) :: st) h else none) = _
    have hb : Nat.ble sc.1 i.toNatClampNeg = false := by
      cases hq : Nat.ble sc.1 i.toNatClampNeg with
      | false => rfl
      | true => exact absurd (Nat.le_of_ble_eq_true hq) (Nat.not_le.mpr hL)
    rw [decide_eq_false hn, hb, hv, hp]; rfl) hx
theorem rx_slen {z : Int32} (hc : code pc = a_slen sc) (hp : pc + 1 = p') (hz : Int32.ofNat sc.1 = z) (hx : Rx sc code r (p', lo, .int z :: st) h o h') : Rx sc code r (pc, lo, .float 0 :: st) h o h' :=
  rx_1 (fun call kont => by
    show code pc call kont (pc, lo, .float 0 :: st) h = _
    rw [hc]
    show (bif Nat.beq (0 : UInt32).toNat 0 then kont (pc + 1, lo, .int (Int32.ofNat sc.1) :: st) h else none) = _
    rw [hz, hp]; rfl) hx
theorem rx_objI {a : Nat} (hc : code pc = a_objI) (hp : pc + 3 = p') (h8 : Nat.ble ((st.map fun (v : Value) => v.category).sum) 8 = true) (hx : Rx sc code r (p', lo, st) h o h') : Rx sc code r (pc, lo, .ref a :: st) h o h' :=
  rx_1 (fun call kont => by
    show code pc call kont (pc, lo, .ref a :: st) h = _
    rw [hc]
    show (bif Nat.ble (st.map fun (v : Value) => v.category).sum 8 then kont (pc + 3, lo, st) h else none) = _
    rw [h8, hp]; rfl) hx
theorem rx_inv {thr : Bool} {y N r' : Nat} {ci : Option Nat} {av : List Value} {v : Option Value} (hc : code pc = a_inv thr y N ci) (hav : (st.take N).reverse = av) (hcall : Rc sc r' y av h v h1) (hr : Nat.ble r' r = true) (g1 : Nat.ble N st.length = true) (g2 : Nat.ble (((st.drop N).map fun (v : Value) => v.category).sum) 8 = true) (g3 : ev_recv ci av h.1 = true) (hp : pc + 3 = p') (hs' : v.toList ++ st.drop N = s') (hx : Rx sc code r (p', lo, s') h1 o h') : Rx sc code r (pc, lo, st) h o h' := by
  obtain ⟨F1, hcall⟩ := hcall
  obtain ⟨N1, F, hx⟩ := hx
  have hr := Nat.le_of_ble_eq_true hr
  refine ⟨N1 + 1, F1 + F, fun fu hf d hd m => ?_⟩
  subst hav
  show code pc (ev_call mt (pg sc) fu d) (ev_run code (ev_call mt (pg sc) fu d) (m + N1)) (pc, lo, st) h = _
  rw [hc]
  show (bif Nat.ble N st.length && (Nat.ble (((st.drop N).map fun (v : Value) => v.category).sum) 8 && ev_recv ci (st.take N).reverse h.1) then
    (match ev_call mt (pg sc) fu d y (st.take N).reverse h with
    | some (.inl v, h1) => ev_run code (ev_call mt (pg sc) fu d) (m + N1) (pc + 3, lo, v.toList ++ st.drop N) h1
    | some (.inr E, h1) => bif thr then some (.inr E, h1) else none
    | none => none) else none) = _
  rw [g1, g2, g3, hcall fu (by omega) d (by omega)]
  show ev_run code (ev_call mt (pg sc) fu d) (m + N1) (pc + 3, lo, v.toList ++ st.drop N) h1 = _
  rw [hp, hs']
  exact hx fu (by omega) d hd m
theorem rx_mc {y : Nat} {av : List Value} (hx : Rx sc (pg sc y) r (0, lv_args 0 av, []) h o h1) (g1 : Nat.ble ((av.map fun (v : Value) => v.category).sum) (mt y).2.2.1 = true) (g2 : ev_rok (mt y).2.2.2.1 o = true) (g3 : Nat.ble h.2.1 h1.2.1 = true) (g4 : Nat.ble h.2.2 h1.2.2 = true) : Rc sc (r + 1) y av h o h1 := by
  obtain ⟨N, F, hx⟩ := hx
  refine ⟨F + N, fun fu hf d hd => ?_⟩
  obtain ⟨d', rfl⟩ : ∃ d', d = d' + 1 := ⟨d - 1, by omega⟩
  have h2 := hx fu (by omega) d' (by omega) (fu - N)
  rw [Nat.sub_add_cancel (by omega)] at h2
  show (bif Nat.ble ((av.map fun (v : Value) => v.category).sum) (mt y).2.2.1 then ev_fin (mt y).2.2.2.1 ((mt y).2.2.2.2.isEmpty && plainName (mt y).1.cls) h (ev_run (pg sc y) (ev_call mt (pg sc) fu d') fu (0, lv_args 0 av, []) h) else none) = _
  rw [g1, h2]
  show ev_fin (mt y).2.2.2.1 ((mt y).2.2.2.2.isEmpty && plainName (mt y).1.cls) h (some (.inl o, h1)) = some (.inl o, h1)
  exact ev_finx g2 g3 g4
theorem Rc.up {y r' : Nat} {av : List Value} (hc : Rc sc r y av h o h1) (hr : r ≤ r') : Rc sc r' y av h o h1 := by
  obtain ⟨F, hc⟩ := hc
  exact ⟨F, fun fu hf d hd => hc fu hf d (Nat.le_trans hr hd)⟩
end RX
