/-! steps of runs, one for each action -/
section ST
variable {code : Nat → EA} {call : ECall} {n pc p' : Nat} {lo l' : List (Nat × Value)} {st s' : List Value} {hs h' h1 : EH} {r : ER}
theorem ev_s (f : EF) (h : code f.1 call (ev_run code call n) f hs = r) : ev_run code call (n + 1) f hs = r := h
theorem st_push {w : Nat} {v : Value} (hc : code pc = a_push w v) (hp : pc + w = p') (h : ev_run code call n (p', lo, v :: st) hs = r) : ev_run code call (n + 1) (pc, lo, st) hs = r := by
  subst hp; show code pc call (ev_run code call n) (pc, lo, st) hs = r; rw [hc]; exact h
theorem st_goto {t : Nat} (hc : code pc = a_goto t) (h : ev_run code call n (t, lo, st) hs = r) : ev_run code call (n + 1) (pc, lo, st) hs = r := by
  show code pc call (ev_run code call n) (pc, lo, st) hs = r; rw [hc]; exact h
theorem st_iload {w i : Nat} {x : Int32} (hc : code pc = a_iload w i) (hp : pc + w = p') (hl : ev_look lo i = some (.int x)) (h : ev_run code call n (p', lo, .int x :: st) hs = r) : ev_run code call (n + 1) (pc, lo, st) hs = r := by
  subst hp; show code pc call (ev_run code call n) (pc, lo, st) hs = r; rw [hc]; show (match ev_look lo i with
  | some (.int x) => ev_run code call n (pc + w, lo, .int x :: st) hs
  | _ => none) = r; rw [hl]; exact h
theorem st_lload {w i : Nat} {x : Int64} (hc : code pc = a_lload w i) (hp : pc + w = p') (hl : ev_look lo i = some (.long x)) (h : ev_run code call n (p', lo, .long x :: st) hs = r) : ev_run code call (n + 1) (pc, lo, st) hs = r := by
  subst hp; show code pc call (ev_run code call n) (pc, lo, st) hs = r; rw [hc]; show (match ev_look lo i with
  | some (.long x) => ev_run code call n (pc + w, lo, .long x :: st) hs
  | _ => none) = r; rw [hl]; exact h
theorem st_aload {w i : Nat} {x : Nat} (hc : code pc = a_aload w i) (hp : pc + w = p') (hl : ev_look lo i = some (.ref x)) (h : ev_run code call n (p', lo, .ref x :: st) hs = r) : ev_run code call (n + 1) (pc, lo, st) hs = r := by
  subst hp; show code pc call (ev_run code call n) (pc, lo, st) hs = r; rw [hc]; show (match ev_look lo i with
  | some (.ref x) => ev_run code call n (pc + w, lo, .ref x :: st) hs
  | some (.float x) => ev_run code call n (pc + w, lo, .float x :: st) hs
  | _ => none) = r; rw [hl]; exact h
theorem st_aloadF {w i : Nat} {x : UInt32} (hc : code pc = a_aload w i) (hp : pc + w = p') (hl : ev_look lo i = some (.float x)) (h : ev_run code call n (p', lo, .float x :: st) hs = r) : ev_run code call (n + 1) (pc, lo, st) hs = r := by
  subst hp; show code pc call (ev_run code call n) (pc, lo, st) hs = r; rw [hc]; show (match ev_look lo i with
  | some (.ref x) => ev_run code call n (pc + w, lo, .ref x :: st) hs
  | some (.float x) => ev_run code call n (pc + w, lo, .float x :: st) hs
  | _ => none) = r; rw [hl]; exact h
theorem st_istore {nL w i : Nat} {x : Int32} (hc : code pc = a_istore nL w i) (hp : pc + w = p') (hi : i < nL) (hl : ev_st1 lo i (.int x) = l') (h : ev_run code call n (p', l', st) hs = r) : ev_run code call (n + 1) (pc, lo, .int x :: st) hs = r := by
  subst hp; subst hl; show code pc call (ev_run code call n) (pc, lo, .int x :: st) hs = r; rw [hc]
  show (if i < nL then ev_run code call n (pc + w, ev_st1 lo i (.int x), st) hs else none) = r; rw [if_pos hi]; exact h
theorem st_astore {nL w i : Nat} {x : Nat} (hc : code pc = a_astore nL w i) (hp : pc + w = p') (hi : i < nL) (hl : ev_st1 lo i (.ref x) = l') (h : ev_run code call n (p', l', st) hs = r) : ev_run code call (n + 1) (pc, lo, .ref x :: st) hs = r := by
  subst hp; subst hl; show code pc call (ev_run code call n) (pc, lo, .ref x :: st) hs = r; rw [hc]
  show (if i < nL then ev_run code call n (pc + w, ev_st1 lo i (.ref x), st) hs else none) = r; rw [if_pos hi]; exact h
theorem st_dstore {nL w i : Nat} {x : UInt64} (hc : code pc = a_dstore nL w i) (hp : pc + w = p') (hi : i + 1 < nL) (hl : ev_st2 lo i (.double x) = l') (h : ev_run code call n (p', l', st) hs = r) : ev_run code call (n + 1) (pc, lo, .double x :: st) hs = r := by
  subst hp; subst hl; show code pc call (ev_run code call n) (pc, lo, .double x :: st) hs = r; rw [hc]
  show (if i + 1 < nL then ev_run code call n (pc + w, ev_st2 lo i (.double x), st) hs else none) = r; rw [if_pos hi]; exact h
theorem st_dload {w i : Nat} {x : UInt64} (hc : code pc = a_dload w i) (hp : pc + w = p') (hl : ev_look lo i = some (.double x)) (h : ev_run code call n (p', lo, .double x :: st) hs = r) : ev_run code call (n + 1) (pc, lo, st) hs = r := by
  subst hp; show code pc call (ev_run code call n) (pc, lo, st) hs = r; rw [hc]; show (match ev_look lo i with
  | some (.double x) => ev_run code call n (pc + w, lo, .double x :: st) hs
  | _ => none) = r; rw [hl]; exact h
theorem st_iinc {nL i : Nat} {d x z : Int32} (hc : code pc = a_iinc nL i d) (hp : pc + 3 = p') (hi : i < nL) (hl : ev_look lo i = some (.int x)) (hz : x + d = z) (hl' : ev_st1 lo i (.int z) = l') (h : ev_run code call n (p', l', st) hs = r) : ev_run code call (n + 1) (pc, lo, st) hs = r := by
  subst hp; subst hl'; subst hz; show code pc call (ev_run code call n) (pc, lo, st) hs = r; rw [hc]
  show (match ev_look lo i with
  | some (.int x) => if i < nL then ev_run code call n (pc + 3, ev_st1 lo i (.int (x + d)), st) hs else none
  | _ => none) = r; rw [hl]; show (if i < nL then ev_run code call n (pc + 3, ev_st1 lo i (.int (x + d)), st) hs else none) = r; rw [if_pos hi]; exact h
theorem st_ii {w : Nat} {g : Int32 → Int32 → Int32} {x y z : Int32} (hc : code pc = a_ii w g) (hp : pc + w = p') (hz : g x y = z) (h : ev_run code call n (p', lo, .int z :: st) hs = r) : ev_run code call (n + 1) (pc, lo, .int y :: .int x :: st) hs = r := by
  subst hp; subst hz; show code pc call (ev_run code call n) (pc, lo, .int y :: .int x :: st) hs = r; rw [hc]; exact h
theorem st_i {g : Int32 → Value} {x : Int32} {v : Value} (hc : code pc = a_i g) (hp : pc + 1 = p') (hz : g x = v) (h : ev_run code call n (p', lo, v :: st) hs = r) : ev_run code call (n + 1) (pc, lo, .int x :: st) hs = r := by
  subst hp; subst hz; show code pc call (ev_run code call n) (pc, lo, .int x :: st) hs = r; rw [hc]; exact h
theorem st_ll {g : Int64 → Int64 → Value} {x y : Int64} {v : Value} (hc : code pc = a_ll g) (hp : pc + 1 = p') (hz : g x y = v) (h : ev_run code call n (p', lo, v :: st) hs = r) : ev_run code call (n + 1) (pc, lo, .long y :: .long x :: st) hs = r := by
  subst hp; subst hz; show code pc call (ev_run code call n) (pc, lo, .long y :: .long x :: st) hs = r; rw [hc]; exact h
theorem st_dcmp {op : CmpOp} {x y : UInt64} {z : Int32} (hc : code pc = a_dcmp op) (hp : pc + 1 = p') (hz : Op.cmpValue (FP.dcmp x y) op = z) (h : ev_run code call n (p', lo, .int z :: st) hs = r) : ev_run code call (n + 1) (pc, lo, .double y :: .double x :: st) hs = r := by
  subst hp; subst hz; show code pc call (ev_run code call n) (pc, lo, .double y :: .double x :: st) hs = r; rw [hc]; exact h
theorem st_ifT {t : Nat} {b : Int32 → Bool} {x : Int32} (hc : code pc = a_if t b) (hb : b x = true) (hp : t = p') (h : ev_run code call n (p', lo, st) hs = r) : ev_run code call (n + 1) (pc, lo, .int x :: st) hs = r := by
  subst hp; show code pc call (ev_run code call n) (pc, lo, .int x :: st) hs = r; rw [hc]
  show (bif b x then ev_run code call n (t, lo, st) hs else ev_run code call n (pc + 3, lo, st) hs) = r; rw [hb]; exact h
theorem st_ifF {t : Nat} {b : Int32 → Bool} {x : Int32} (hc : code pc = a_if t b) (hb : b x = false) (hp : pc + 3 = p') (h : ev_run code call n (p', lo, st) hs = r) : ev_run code call (n + 1) (pc, lo, .int x :: st) hs = r := by
  subst hp; show code pc call (ev_run code call n) (pc, lo, .int x :: st) hs = r; rw [hc]
  show (bif b x then ev_run code call n (t, lo, st) hs else ev_run code call n (pc + 3, lo, st) hs) = r; rw [hb]; exact h
theorem st_icT {t : Nat} {b : Int32 → Int32 → Bool} {x y : Int32} (hc : code pc = a_ic t b) (hb : b x y = true) (hp : t = p') (h : ev_run code call n (p', lo, st) hs = r) : ev_run code call (n + 1) (pc, lo, .int y :: .int x :: st) hs = r := by
  subst hp; show code pc call (ev_run code call n) (pc, lo, .int y :: .int x :: st) hs = r; rw [hc]
  show (bif b x y then ev_run code call n (t, lo, st) hs else ev_run code call n (pc + 3, lo, st) hs) = r; rw [hb]; exact h
theorem st_icF {t : Nat} {b : Int32 → Int32 → Bool} {x y : Int32} (hc : code pc = a_ic t b) (hb : b x y = false) (hp : pc + 3 = p') (h : ev_run code call n (p', lo, st) hs = r) : ev_run code call (n + 1) (pc, lo, .int y :: .int x :: st) hs = r := by
  subst hp; show code pc call (ev_run code call n) (pc, lo, .int y :: .int x :: st) hs = r; rw [hc]
  show (bif b x y then ev_run code call n (t, lo, st) hs else ev_run code call n (pc + 3, lo, st) hs) = r; rw [hb]; exact h
theorem st_dup {v : Value} (hc : code pc = a_dup) (hp : pc + 1 = p') (hv : v.category = 1) (h : ev_run code call n (p', lo, v :: v :: st) hs = r) : ev_run code call (n + 1) (pc, lo, v :: st) hs = r := by
  subst hp; show code pc call (ev_run code call n) (pc, lo, v :: st) hs = r; rw [hc]
  show (if v.category = 1 then ev_run code call n (pc + 1, lo, v :: v :: st) hs else none) = r; rw [if_pos hv]; exact h
theorem st_pop {v : Value} (hc : code pc = a_pop) (hp : pc + 1 = p') (hv : v.category = 1) (h : ev_run code call n (p', lo, st) hs = r) : ev_run code call (n + 1) (pc, lo, v :: st) hs = r := by
  subst hp; show code pc call (ev_run code call n) (pc, lo, v :: st) hs = r; rw [hc]
  show (if v.category = 1 then ev_run code call n (pc + 1, lo, st) hs else none) = r; rw [if_pos hv]; exact h
def tsw_to (l : Int) (ts : List Nat) (t : Nat) (x : Int32) : Nat := if x.toInt < l then t else (ts[(x.toInt - l).toNat]?).getD t
theorem st_tsw {l : Int} {ts : List Nat} {t : Nat} {x : Int32} (hc : code pc = a_tsw l ts t) (hx : tsw_to l ts t x = p') (h : ev_run code call n (p', lo, st) hs = r) : ev_run code call (n + 1) (pc, lo, .int x :: st) hs = r := by
  subst hx; show code pc call (ev_run code call n) (pc, lo, .int x :: st) hs = r; rw [hc]
  show (if x.toInt < l then ev_run code call n (t, lo, st) hs else match ts[(x.toInt - l).toNat]? with
    | some t1 => ev_run code call n (t1, lo, st) hs
    | none => ev_run code call n (t, lo, st) hs) = r
  unfold tsw_to at h
  by_cases hl : x.toInt < l
  · rw [if_pos hl] at h ⊢; exact h
  · rw [if_neg hl] at h ⊢
    cases hq : ts[(x.toInt - l).toNat]? with
    | none => rw [hq] at h; exact h
    | some t1 => rw [hq] at h; exact h
theorem st_tswL {l : Int} {ts : List Nat} {t : Nat} {x : Int32} (hc : code pc = a_tsw l ts t) (hx : x.toInt < l) (h : ev_run code call n (t, lo, st) hs = r) : ev_run code call (n + 1) (pc, lo, .int x :: st) hs = r :=
  st_tsw hc (by unfold tsw_to; rw [if_pos hx]) h
theorem st_tswH {l : Int} {ts : List Nat} {t : Nat} {x : Int32} (hc : code pc = a_tsw l ts t) (hx : l + ts.length ≤ x.toInt) (h : ev_run code call n (t, lo, st) hs = r) : ev_run code call (n + 1) (pc, lo, .int x :: st) hs = r :=
  st_tsw hc (by unfold tsw_to; rw [if_neg (by omega), List.getElem?_eq_none (by omega)]; rfl) h
theorem st_ret_i {x : Int32} (hc : code pc = a_iret) : ev_run code call (n + 1) (pc, lo, [.int x]) hs = some (.inl (some (.int x)), hs) := by
  show code pc call (ev_run code call n) (pc, lo, [.int x]) hs = _; rw [hc]; rfl
theorem st_ret_v (hc : code pc = a_vret) : ev_run code call (n + 1) (pc, lo, []) hs = some (.inl none, hs) := by
  show code pc call (ev_run code call n) (pc, lo, []) hs = _; rw [hc]; rfl
theorem st_getf {ci kf a : Nat} {fs : List Value} {v : Value} (hc : code pc = a_getf ci kf) (hp : pc + 3 = p') (hcell : hs.1[a]? = some (.inr ci, fs)) (hf : fs[kf]? = some v) (h : ev_run code call n (p', lo, v :: st) hs = r) : ev_run code call (n + 1) (pc, lo, .ref a :: st) hs = r := by
  subst hp; show code pc call (ev_run code call n) (pc, lo, .ref a :: st) hs = r; rw [hc]
  show (match hs.1[a]? with
    | some (.inr c, fs) => bif Nat.beq c ci then (match fs[kf]? with
      | some v => ev_run code call n (pc + 3, lo, v :: st) hs
      | none => none) else none
    | _ => none) = r
  rw [hcell]
  show (bif Nat.beq ci ci then (match fs[kf]? with
      | some v => ev_run code call n (pc + 3, lo, v :: st) hs
      | none => none) else none) = r
  rw [show Nat.beq ci ci = true from Nat.beq_refl ci, hf]; exact h
theorem st_putf {ty ci kf a : Nat} {fs : List Value} {v : Value} (hc : code pc = a_putf ty ci kf) (hp : pc + 3 = p') (hcell : hs.1[a]? = some (.inr ci, fs)) (hg : (ev_fit ty v && decide (kf < fs.length)) = true) (hh : (hs.1.set a (.inr ci, fs.set kf v), hs.2) = h') (h : ev_run code call n (p', lo, st) h' = r) : ev_run code call (n + 1) (pc, lo, v :: .ref a :: st) hs = r := by
  subst hp; subst hh; show code pc call (ev_run code call n) (pc, lo, v :: .ref a :: st) hs = r; rw [hc]
  show (match hs.1[a]? with
    | some (.inr c, fs) => bif Nat.beq c ci && (ev_fit ty v && decide (kf < fs.length)) then ev_run code call n (pc + 3, lo, st) (hs.1.set a (.inr c, fs.set kf v), hs.2) else none
    | _ => none) = r
  rw [hcell]
  show (bif Nat.beq ci ci && (ev_fit ty v && decide (kf < fs.length)) then ev_run code call n (pc + 3, lo, st) (hs.1.set a (.inr ci, fs.set kf v), hs.2) else none) = r
  rw [show Nat.beq ci ci = true from Nat.beq_refl ci, hg]; exact h
theorem ev_at_of {vs : List Value} {i : Int32} {j : Nat} {v : Value} (hn : ¬ i < 0) (hi : i.toNatClampNeg = j) (hv : vs[j]? = some v) : ev_at vs i = some v := by
  unfold ev_at; rw [if_neg hn, hi]; exact hv
theorem st_lst {i : Int32} {j a : Nat} {vs : List Value} {w : Value} {x : Int64} (hc : code pc = a_lst) (hp : pc + 1 = p') (hcell : hs.1[a]? = some (.inl 2, vs)) (hn : ¬ i < 0) (hi : i.toNatClampNeg = j) (hv : vs[j]? = some w) (hh : (hs.1.set a (.inl 2, vs.set j (.long x)), hs.2) = h') (h : ev_run code call n (p', lo, st) h' = r) : ev_run code call (n + 1) (pc, lo, .long x :: .int i :: .ref a :: st) hs = r := by
  subst hp; subst hh; show code pc call (ev_run code call n) (pc, lo, .long x :: .int i :: .ref a :: st) hs = r; rw [hc]
  show (match hs.1[a]? with
    | some (.inl t', vs) => bif Nat.beq t' 2 then (match ev_at vs i with
      | some _ => ev_run code call n (pc + 1, lo, st) (hs.1.set a (.inl t', vs.set i.toNatClampNeg (.long x)), hs.2)
      | _ => none) else none
    | _ => none) = r
  rw [hcell]
  show (match ev_at vs i with
      | some _ => ev_run code call n (pc + 1, lo, st) (hs.1.set a (.inl 2, vs.set i.toNatClampNeg (.long x)), hs.2)
      | _ => none) = r
  rw [ev_at_of hn hi hv, hi]; exact h
theorem st_lld {i : Int32} {j a : Nat} {vs : List Value} {v : Value} {x : Int64} (hc : code pc = a_lld) (hp : pc + 1 = p') (hcell : hs.1[a]? = some (.inl 2, vs)) (hn : ¬ i < 0) (hi : i.toNatClampNeg = j) (hv : vs[j]? = some v) (hx : v = .long x) (h : ev_run code call n (p', lo, v :: st) hs = r) : ev_run code call (n + 1) (pc, lo, .int i :: .ref a :: st) hs = r := by
  subst hp; subst hx; show code pc call (ev_run code call n) (pc, lo, .int i :: .ref a :: st) hs = r; rw [hc]
  show (match hs.1[a]? with
    | some (.inl t', vs) => bif Nat.beq t' 2 then (match ev_at vs i with
      | some (.long x) => ev_run code call n (pc + 1, lo, .long x :: st) hs
      | _ => none) else none
    | _ => none) = r
  rw [hcell]
  show (match ev_at vs i with
      | some (.long x) => ev_run code call n (pc + 1, lo, .long x :: st) hs
      | _ => none) = r
  rw [ev_at_of hn hi hv]; exact h
theorem st_throw {E : String} (hc : code pc = a_throw E) (hg : Nat.ble ((st.map fun v => v.category).sum) 8 = true) (hh : (hs.1, hs.2.1 + 1, hs.2.2 + 6) = h') : ev_run code call (n + 1) (pc, lo, st) hs = some (.inr E, h') := by
  subst hh; show code pc call (ev_run code call n) (pc, lo, st) hs = _; rw [hc]
  show (bif Nat.ble ((st.map fun v => v.category).sum) 8 then (some (.inr E, hs.1, hs.2.1 + 1, hs.2.2 + 6) : ER) else none) = _
  rw [hg]; rfl
theorem st_inv {thr : Bool} {y N : Nat} {ci : Option Nat} {av : List Value} {v : Option Value} (hc : code pc = a_inv thr y N ci) (hav : (st.take N).reverse = av) (hcall : call y av hs = some (.inl v, h1)) (g1 : Nat.ble N st.length = true) (g2 : Nat.ble (((st.drop N).map fun v => v.category).sum) 8 = true) (g3 : ev_recv ci av hs.1 = true) (hp : pc + 3 = p') (hs' : v.toList ++ st.drop N = s') (h : ev_run code call n (p', lo, s') h1 = r) : ev_run code call (n + 1) (pc, lo, st) hs = r := by
  subst hp; subst hav; subst hs'; show code pc call (ev_run code call n) (pc, lo, st) hs = r; rw [hc]
  show (bif Nat.ble N st.length && (Nat.ble (((st.drop N).map fun v => v.category).sum) 8 && ev_recv ci (st.take N).reverse hs.1) then
    (match call y (st.take N).reverse hs with
    | some (.inl v, h1) => ev_run code call n (pc + 3, lo, v.toList ++ st.drop N) h1
    | some (.inr E, h1) => bif thr then some (.inr E, h1) else none
    | none => none) else none) = r
  rw [g1, g2, g3, hcall]; exact h
theorem st_invX {y N : Nat} {ci : Option Nat} {av : List Value} {E : String} (hc : code pc = a_inv true y N ci) (hav : (st.take N).reverse = av) (hcall : call y av hs = some (.inr E, h1)) (g1 : Nat.ble N st.length = true) (g2 : Nat.ble (((st.drop N).map fun v => v.category).sum) 8 = true) (g3 : ev_recv ci av hs.1 = true) : ev_run code call (n + 1) (pc, lo, st) hs = some (.inr E, h1) := by
  subst hav; show code pc call (ev_run code call n) (pc, lo, st) hs = _; rw [hc]
  show (bif Nat.ble N st.length && (Nat.ble (((st.drop N).map fun v => v.category).sum) 8 && ev_recv ci (st.take N).reverse hs.1) then
    (match call y (st.take N).reverse hs with
    | some (.inl v, h1) => ev_run code call n (pc + 3, lo, v.toList ++ st.drop N) h1
    | some (.inr E, h1) => bif true then some (.inr E, h1) else none
    | none => none) else none) = _
  rw [g1, g2, g3, hcall]; rfl
theorem st_invH {y N : Nat} {ci : Option Nat} {hl : List (String × Nat × Nat)} {av : List Value} {v : Option Value} (hc : code pc = a_invH y N ci hl) (hav : (st.take N).reverse = av) (hcall : call y av hs = some (.inl v, h1)) (g1 : Nat.ble N st.length = true) (g2 : Nat.ble (((st.drop N).map fun v => v.category).sum) 8 = true) (g3 : ev_recv ci av hs.1 = true) (hp : pc + 3 = p') (hs' : v.toList ++ st.drop N = s') (h : ev_run code call n (p', lo, s') h1 = r) : ev_run code call (n + 1) (pc, lo, st) hs = r := by
  subst hp; subst hav; subst hs'; show code pc call (ev_run code call n) (pc, lo, st) hs = r; rw [hc]
  show (bif Nat.ble N st.length && (Nat.ble (((st.drop N).map fun v => v.category).sum) 8 && ev_recv ci (st.take N).reverse hs.1) then
    (match call y (st.take N).reverse hs with
    | some (.inl v, h1) => ev_run code call n (pc + 3, lo, v.toList ++ st.drop N) h1
    | some (.inr E, h1) => (match ev_find hl E with
      | some q => ev_run code call n (q.1, ev_del lo q.2, []) h1
      | none => none)
    | none => none) else none) = r
  rw [g1, g2, g3, hcall]; exact h
theorem st_invC {y N q : Nat} {ci : Option Nat} {hl : List (String × Nat × Nat)} {av : List Value} {E : String} (hc : code pc = a_invH y N ci hl) (hav : (st.take N).reverse = av) (hcall : call y av hs = some (.inr E, h1)) (g1 : Nat.ble N st.length = true) (g2 : Nat.ble (((st.drop N).map fun v => v.category).sum) 8 = true) (g3 : ev_recv ci av hs.1 = true) (hq : ev_find hl E = some (p', q)) (hl' : ev_del lo q = l') (h : ev_run code call n (p', l', []) h1 = r) : ev_run code call (n + 1) (pc, lo, st) hs = r := by
  subst hav; subst hl'; show code pc call (ev_run code call n) (pc, lo, st) hs = r; rw [hc]
  show (bif Nat.ble N st.length && (Nat.ble (((st.drop N).map fun v => v.category).sum) 8 && ev_recv ci (st.take N).reverse hs.1) then
    (match call y (st.take N).reverse hs with
    | some (.inl v, h1) => ev_run code call n (pc + 3, lo, v.toList ++ st.drop N) h1
    | some (.inr E, h1) => (match ev_find hl E with
      | some q => ev_run code call n (q.1, ev_del lo q.2, []) h1
      | none => none)
    | none => none) else none) = r
  rw [g1, g2, g3, hcall]
  show (match ev_find hl E with
      | some q => ev_run code call n (q.1, ev_del lo q.2, []) h1
      | none => none) = r
  rw [hq]; exact h
theorem st_new {ci m : Nat} {fs : List Value} (hc : code pc = a_new ci m fs) (hp : pc + 3 = p') (hh : (hs.1 ++ [(.inr ci, fs)], hs.2.1 + 1, hs.2.2 + m) = h') {a : Nat} (ha : hs.1.length = a) (h : ev_run code call n (p', lo, .ref a :: st) h' = r) : ev_run code call (n + 1) (pc, lo, st) hs = r := by
  subst hp; subst hh; subst ha; show code pc call (ev_run code call n) (pc, lo, st) hs = r; rw [hc]; exact h
theorem st_newa {t a : Nat} {i : Int32} (hc : code pc = a_newa t) (hp : pc + 2 = p') (hn : ¬ i < 0) (hb : Nat.ble (i.toNatClampNeg * 8) 536870912 = true) (hh : (hs.1 ++ [(.inl t, List.replicate i.toNatClampNeg (ev_dv t))], hs.2.1 + 1, hs.2.2 + i.toNatClampNeg) = h') (ha : hs.1.length = a) (h : ev_run code call n (p', lo, .ref a :: st) h' = r) : ev_run code call (n + 1) (pc, lo, .int i :: st) hs = r := by
  subst hp; subst hh; subst ha; show code pc call (ev_run code call n) (pc, lo, .int i :: st) hs = r; rw [hc]
  show (if i < 0 then none else bif Nat.ble (i.toNatClampNeg * 8) 536870912 then
      ev_run code call n (pc + 2, lo, .ref hs.1.length :: st) (hs.1 ++ [(.inl t, List.replicate i.toNatClampNeg (ev_dv t))], hs.2.1 + 1, hs.2.2 + i.toNatClampNeg) else none) = r
  rw [if_neg hn, hb]; exact h
theorem st_sld {xs : Nat → Int32} {L : Nat} {i x : Int32} {z : UInt32} (hc : code pc = a_sld xs L) (hp : pc + 1 = p') (hn : ¬ i < 0) (hL : Nat.ble L i.toNatClampNeg = false) (hx : xs i.toNatClampNeg = x) (h : ev_run code call n (p', lo, .int x :: st) hs = r) : ev_run code call (n + 1) (pc, lo, .int i :: .float z :: st) hs = r := by
  subst hp; subst hx; show code pc call (ev_run code call n) (pc, lo, .int i :: .float z :: st) hs = r; rw [hc]
  show (if i < 0 then none else bif Nat.ble L i.toNatClampNeg then none else ev_run code call n (pc + 1, lo, .int (xs i.toNatClampNeg) :: st) hs) = r
  rw [if_neg hn, hL]; exact h
theorem st_slen {L : Nat} {q : Int32} {z : UInt32} (hc : code pc = a_slen L) (hp : pc + 1 = p') (hz : Int32.ofNat L = q) (h : ev_run code call n (p', lo, .int q :: st) hs = r) : ev_run code call (n + 1) (pc, lo, .float z :: st) hs = r := by
  subst hp; subst hz; show code pc call (ev_run code call n) (pc, lo, .float z :: st) hs = r; rw [hc]; exact h
end ST
/-- a method's call out of its run -/
theorem ev_mc {fu d y : Nat} {av : List Value} {hs h1 : EH} {o : Option Value ⊕ String} (hg : Nat.ble ((av.map fun v => v.category).sum) (mt y).2.2.1 = true) (hr : ev_run (pg y) (ev_call mt pg fu d) fu (0, lv_args 0 av, []) hs = some (o, h1))
    (hf : ev_fin (mt y).2.2.2.1 ((mt y).2.2.2.2.isEmpty && plainName (mt y).1.cls) hs (some (o, h1)) = some (o, h1)) : ev_call mt pg fu (d + 1) y av hs = some (o, h1) := by
  show (bif Nat.ble ((av.map fun v => v.category).sum) (mt y).2.2.1 then ev_fin (mt y).2.2.2.1 ((mt y).2.2.2.2.isEmpty && plainName (mt y).1.cls) hs (ev_run (pg y) (ev_call mt pg fu d) fu (0, lv_args 0 av, []) hs) else none) = _
  rw [hg, hr]
  exact hf
theorem ev_finx {ret : Option FieldType} {he : Bool} {hs h1 : EH} {v : Option Value} (a : ev_rok ret v = true) (b : Nat.ble hs.2.1 h1.2.1 = true) (c : Nat.ble hs.2.2 h1.2.2 = true) : ev_fin ret he hs (some (.inl v, h1)) = some (.inl v, h1) := by
  show (bif ev_rok ret v && (Nat.ble hs.2.1 h1.2.1 && Nat.ble hs.2.2 h1.2.2) then some (Sum.inl v, h1) else none) = _
  rw [a, b, c]; rfl
theorem ev_finX {ret : Option FieldType} {he : Bool} {hs h1 : EH} {E : String} (a : he = true) (b : Nat.ble hs.2.1 h1.2.1 = true) (c : Nat.ble hs.2.2 h1.2.2 = true) : ev_fin ret he hs (some (.inr E, h1)) = some (.inr E, h1) := by
  show (bif he && (Nat.ble hs.2.1 h1.2.1 && Nat.ble hs.2.2 h1.2.2) then some (Sum.inr E, h1) else none) = _
  rw [a, b, c]; rfl
theorem q_recv {b c : Nat} {f r : List Value} {h : List EC} (hb : h[b]? = some (.inr c, f)) : ev_recv (some c) (.ref b :: r) h = true := by
  show (match h[b]? with
      | some (.inr c', _) => Nat.beq c' c
      | _ => false) = true
  rw [hb]; exact Nat.beq_refl c
theorem q_lt {x y : Int32} (h : x.toInt < y.toInt) : decide (x < y) = true := decide_eq_true (Int32.lt_iff_toInt_lt.mpr h)
theorem q_lt' {x y : Int32} (h : ¬ x.toInt < y.toInt) : decide (x < y) = false := decide_eq_false (fun q => h (Int32.lt_iff_toInt_lt.mp q))
theorem q_le {x y : Int32} (h : x.toInt ≤ y.toInt) : decide (x ≤ y) = true := decide_eq_true (Int32.le_iff_toInt_le.mpr h)
theorem q_le' {x y : Int32} (h : ¬ x.toInt ≤ y.toInt) : decide (x ≤ y) = false := decide_eq_false (fun q => h (Int32.le_iff_toInt_le.mp q))
theorem q_eq {x y : Int32} (h : x.toInt = y.toInt) : decide (x = y) = true := decide_eq_true (Int32.toInt_inj.mp h)
theorem q_eq' {x y : Int32} (h : ¬ x.toInt = y.toInt) : decide (x = y) = false := decide_eq_false (fun q => h (congrArg Int32.toInt q))
theorem q_ne {x y : Int32} (h : ¬ x.toInt = y.toInt) : (!decide (x = y)) = true := by rw [q_eq' h]; rfl
theorem q_ne' {x y : Int32} (h : x.toInt = y.toInt) : (!decide (x = y)) = false := by rw [q_eq h]; rfl
theorem q_eqr {x : Int32} : decide (x = x) = true := decide_eq_true rfl
theorem q_z {x : Int32} (h : x = 0) : decide (x = 0) = true := decide_eq_true h
theorem q_z' {x : Int32} (h : x ≠ 0) : decide (x = 0) = false := decide_eq_false h
theorem q_nz {x : Int32} (h : x ≠ 0) : (!decide (x = 0)) = true := by rw [decide_eq_false h]; rfl
theorem q_nz' {x : Int32} (h : x = 0) : (!decide (x = 0)) = false := by rw [decide_eq_true h]; rfl
theorem q_shr0 (x : Int32) : x >>> ((0 : Int32) &&& 31) = x := by rw [show (0 : Int32) &&& 31 = 0 from by decide]; exact Int32.shiftRight_zero
theorem q_conc {x : Int32} {lo : Int} {m : Nat} (h1 : lo ≤ x.toInt) (h2 : x.toInt < lo + m) : ∃ k, k < m ∧ x = Int32.ofInt (lo + k) := by
  refine ⟨(x.toInt - lo).toNat, by omega, ?_⟩
  rw [show lo + ((x.toInt - lo).toNat : Int) = x.toInt by omega]
  exact (Int32.ofInt_toInt x).symm

