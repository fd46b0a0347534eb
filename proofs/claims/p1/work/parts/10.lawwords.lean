/-! the law's own frame: it reads its script, an outer cell -/
def a_dcmp (op : CmpOp) : EA := fun _ k f hs => match f.2.2 with
  | .double y :: .double x :: st => k (f.1 + 1, f.2.1, .int (Op.cmpValue (FP.dcmp x y) op) :: st) hs
  | _ => none
theorem ok_dcmp {cc : ByteArray} {nL : Nat} {hh : List (Nat × Nat × Nat × Nat)} {own : String} {Ts Tn : List Cond} {Tq : EQ} {cl : List vw_C} {isI : Bool} {CO : Launch → Room → (Nat → ClassId) → va_G → (Nat → Nat) → (Nat → Prop) → ECall → Prop} {pc : Nat} {op : CmpOp} (d : decode cc pc = .ok (.dcmp op, 1)) : ev_Ok cc nL hh own Ts Tn Tq cl isI CO pc (a_dcmp op) := by
  intro p l e R s m args below meth c Q D cs ox A al0 k0 n0 call kont f hs o hs' cx hI hC hR hT hpc h hk
  obtain ⟨pc', lo, st⟩ := f
  cases hpc
  obtain ⟨⟨hx, hb, -⟩, -⟩ := cx
  match st, h with
  | .double y :: .double x :: st, h =>
    intro h1 h2
    obtain ⟨g1, g2, g3⟩ := hk _ _ h h1 h2
    refine ⟨g1, g2, fun al H locs ls w wl wv hl => ?_⟩
    exact lv_dcmp hx hb d (g3 al H locs ls w wl (ev_allc trivial (ev_tl (ev_tl wv))) hl)
def ev_OX (b L : Nat) (xs : Nat → Int32) : State → (Nat → Nat) → (Nat → Prop) → Prop := fun s ox A => (∀ k, ox k = b) ∧ va_X b L xs s s.heap ∧ b < s.heap.size ∧ ¬ A b
/-- as ev_Ok, in a frame of which OX holds -/
def ev_OkL (OX : State → (Nat → Nat) → (Nat → Prop) → Prop) (cc : ByteArray) (nL : Nat) (hh : List (Nat × Nat × Nat × Nat)) (own : String) (Ts Tn : List Cond) (Tq : EQ) (cl : List vw_C) (isI : Bool) (CO : Launch → Room → (Nat → ClassId) → va_G → (Nat → Nat) → (Nat → Prop) → ECall → Prop) (pc : Nat) (a : EA) : Prop :=
  ∀ (p : Program) (l : Launch) (e : Env) (R : Room) (s : State) (m : MethodId) (args : Array Value) (below : List Frame) (meth : Method) (c : Code) (Q : State → Prop) (D : va_G) (cs : Nat → ClassId) (ox : Nat → Nat) (A : Nat → Prop) (al0 : List Nat) (k0 n0 : Nat) (call : ECall) (kont : EK) (f : EF) (hs : EH) (o : Option Value ⊕ String) (hs' : EH),
    OX s ox A → ev_Cx p R s m args c cc nL hh own Ts Tn Tq D cl cs A k0 n0 hs'.2.1 hs'.2.2 → (isI = true → meth.name = "<init>") → CO l R cs D ox A call →
    (∀ v, o = .inl v → ev_Rt p l e R s m args below meth c Q cc D cl cs ox A al0 k0 n0 v hs') →
    (∀ E, o = .inr E → ev_Th l s args below meth c Q D cl cs ox A al0 k0 n0 E hs') →
    f.1 = pc → a call kont f hs = some (o, hs') →
    (∀ f1 h1, kont f1 h1 = some (o, hs') → ev_G p l e R s m args below meth c Q D cl cs ox A al0 nL k0 n0 hs'.2.1 hs'.2.2 f1 h1) →
    ev_G p l e R s m args below meth c Q D cl cs ox A al0 nL k0 n0 hs'.2.1 hs'.2.2 f hs
section EVOL
variable {OX : State → (Nat → Nat) → (Nat → Prop) → Prop} {cc : ByteArray} {nL : Nat} {hh : List (Nat × Nat × Nat × Nat)} {own : String} {Ts Tn : List Cond} {Tq : EQ} {cl : List vw_C} {isI : Bool} {CO : Launch → Room → (Nat → ClassId) → va_G → (Nat → Nat) → (Nat → Prop) → ECall → Prop} {pc : Nat}
theorem ev_lift {a : EA} (h : ev_Ok cc nL hh own Ts Tn Tq cl isI CO pc a) : ev_OkL OX cc nL hh own Ts Tn Tq cl isI CO pc a :=
  fun p l e R s m args below meth c Q D cs ox A al0 k0 n0 call kont f hs o hs' _ => h p l e R s m args below meth c Q D cs ox A al0 k0 n0 call kont f hs o hs'
def a_sld (xs : Nat → Int32) (L : Nat) : EA := fun _ k f hs => match f.2.2 with
  | .int i :: .float _ :: st => if i < 0 then none else bif Nat.ble L i.toNatClampNeg then none else k (f.1 + 1, f.2.1, .int (xs i.toNatClampNeg) :: st) hs
  | _ => none
def a_slen (L : Nat) : EA := fun _ k f hs => match f.2.2 with
  | .float _ :: st => k (f.1 + 1, f.2.1, .int (Int32.ofNat L) :: st) hs
  | _ => none
theorem ok_sld {b L : Nat} {xs : Nat → Int32} (d : decode cc pc = .ok (.iaload, 1)) : ev_OkL (ev_OX b L xs) cc nL hh own Ts Tn Tq cl isI CO pc (a_sld xs L) := by
  intro p l e R s m args below meth c Q D cs ox A al0 k0 n0 call kont f hs o hs' hO cx hI hC hR hT hpc h hk
  obtain ⟨pc', lo, st⟩ := f
  cases hpc
  obtain ⟨⟨hx, hb, -⟩, -⟩ := cx
  obtain ⟨o1, o2, o3, o4⟩ := hO
  match st, h with
  | .int i :: .float z :: st, h =>
    have h : (if i < 0 then none else bif Nat.ble L i.toNatClampNeg then none else kont (pc' + 1, lo, .int (xs i.toNatClampNeg) :: st) hs) = some (o, hs') := h
    by_cases hi : i < 0
    · rw [if_pos hi] at h; cases h
    · rw [if_neg hi] at h
      cases hL : Nat.ble L i.toNatClampNeg with
      | true => rw [hL] at h; cases h
      | false =>
        rw [hL] at h
        dsimp only [cond_false] at h
        have hlt : ¬ L ≤ i.toNatClampNeg := fun q => by rw [Nat.ble_eq_true_of_le q] at hL; cases hL
        intro h1 h2
        obtain ⟨g1, g2, g3⟩ := hk _ _ h h1 h2
        refine ⟨g1, g2, fun al H locs ls w wl wv hl => ?_⟩
        have k3 := g3 al H locs ls w wl (ev_allc trivial (ev_tl (ev_tl wv))) hl
        show W p l e R s m args below meth c H locs _ _ Q (F0 m pc' ls (.int i :: .ref (ox z.toNat) :: st.map (ev_rv ox al)))
        rw [o1]
        exact va_sld hx hb o2 o3 o4 w.2.2.2.2.1 (fun q => q.elim hi hlt) d k3
theorem ok_slen {b L : Nat} {xs : Nat → Int32} (d : decode cc pc = .ok (.arraylength, 1)) : ev_OkL (ev_OX b L xs) cc nL hh own Ts Tn Tq cl isI CO pc (a_slen L) := by
  intro p l e R s m args below meth c Q D cs ox A al0 k0 n0 call kont f hs o hs' hO cx hI hC hR hT hpc h hk
  obtain ⟨pc', lo, st⟩ := f
  cases hpc
  obtain ⟨⟨hx, hb, -⟩, -⟩ := cx
  obtain ⟨o1, o2, o3, o4⟩ := hO
  match st, h with
  | .float z :: st, h =>
    have h : kont (pc' + 1, lo, .int (Int32.ofNat L) :: st) hs = some (o, hs') := h
    intro h1 h2
    obtain ⟨g1, g2, g3⟩ := hk _ _ h h1 h2
    refine ⟨g1, g2, fun al H locs ls w wl wv hl => ?_⟩
    have k3 := g3 al H locs ls w wl (ev_allc trivial (ev_tl wv)) hl
    show W p l e R s m args below meth c H locs _ _ Q (F0 m pc' ls (.ref (ox z.toNat) :: st.map (ev_rv ox al)))
    rw [o1]
    exact va_slen hx hb o2 o3 o4 w.2.2.2.2.1 d k3
theorem ok_t_lL {k : Nat} {a : EA} (h : ev_OkL OX cc nL hh own Ts Tn Tq cl isI CO k a) : ∀ pc, ev_OkL OX cc nL hh own Ts Tn Tq cl isI CO pc (t_l k a pc) := by
  intro pc
  unfold t_l
  cases hq : Nat.beq pc k with
  | true => cases Nat.eq_of_beq_eq_true hq; exact h
  | false => exact ev_lift ok_no
theorem ok_t_nL {k : Nat} {a b : Nat → EA} (ha : ∀ pc, ev_OkL OX cc nL hh own Ts Tn Tq cl isI CO pc (a pc)) (hb : ∀ pc, ev_OkL OX cc nL hh own Ts Tn Tq cl isI CO pc (b pc)) : ∀ pc, ev_OkL OX cc nL hh own Ts Tn Tq cl isI CO pc (t_n k a b pc) := by
  intro pc
  unfold t_n
  cases hq : Nat.ble k pc with
  | true => exact hb pc
  | false => exact ha pc
theorem ev_run_okL {code : Nat → EA} (hcode : ∀ pc, ev_OkL OX cc nL hh own Ts Tn Tq cl isI CO pc (code pc))
    {p : Program} {l : Launch} {e : Env} {R : Room} {s : State} {m : MethodId} {args : Array Value} {below : List Frame} {meth : Method} {c : Code} {Q : State → Prop} {D : va_G} {cs : Nat → ClassId} {ox : Nat → Nat} {A : Nat → Prop} {al0 : List Nat} {k0 n0 : Nat} {call : ECall} {o : Option Value ⊕ String} {hs' : EH}
    (hO : OX s ox A) (cx : ev_Cx p R s m args c cc nL hh own Ts Tn Tq D cl cs A k0 n0 hs'.2.1 hs'.2.2) (hI : isI = true → meth.name = "<init>") (hC : CO l R cs D ox A call)
    (hR : ∀ v, o = .inl v → ev_Rt p l e R s m args below meth c Q cc D cl cs ox A al0 k0 n0 v hs') (hT : ∀ E, o = .inr E → ev_Th l s args below meth c Q D cl cs ox A al0 k0 n0 E hs') :
    ∀ (n : Nat) (f : EF) (hs : EH), ev_run code call n f hs = some (o, hs') → ev_G p l e R s m args below meth c Q D cl cs ox A al0 nL k0 n0 hs'.2.1 hs'.2.2 f hs := by
  intro n
  induction n with
  | zero => intro f hs h; cases h
  | succ n ih =>
    intro f hs h
    exact hcode f.1 p l e R s m args below meth c Q D cs ox A al0 k0 n0 call (ev_run code call n) f hs o hs' hO cx hI hC hR hT rfl h (fun f1 h1 h2 => ih f1 h1 h2)
end EVOL
theorem w_83 : Cond.initialized "LinkHarbourLaw" ∈ lw_g := mG 83 (by decide +kernel) rfl
theorem w_107 : Cond.classLink "LinkHarbourLaw" 8 "LinkHarbour" ∈ lw_g := mG 107 (by decide +kernel) rfl
theorem w_108 : Cond.instantiable "LinkHarbour" 9 ∈ lw_g := mG 108 (by decide +kernel) rfl
theorem w_109 : Cond.methodLink "LinkHarbourLaw" 102 ⟨"LinkHarbour", "<init>", "()V"⟩ ∈ lw_g := mG 109 (by decide +kernel) rfl
theorem w_110 : Cond.instanceMethod ⟨"LinkHarbour", "<init>", "()V"⟩ ∈ lw_g := mG 110 (by decide +kernel) rfl
theorem w_501 : Cond.methodLink "LinkHarbourLaw" 141 ⟨"LinkHarbour", "clear", "()I"⟩ ∈ lw_g := mG 501 (by decide +kernel) rfl
theorem w_502 : Cond.instanceMethod ⟨"LinkHarbour", "clear", "()I"⟩ ∈ lw_g := mG 502 (by decide +kernel) rfl
theorem w_503 : Cond.selects "LinkHarbour" ⟨"LinkHarbour", "clear", "()I"⟩ ⟨"LinkHarbour", "clear", "()I"⟩ ∈ lw_g := mG 503 (by decide +kernel) rfl
theorem w_509 : Cond.methodLink "LinkHarbourLaw" 190 ⟨"LinkHarbour", "usedPart", "()D"⟩ ∈ lw_g := mG 509 (by decide +kernel) rfl
theorem w_510 : Cond.instanceMethod ⟨"LinkHarbour", "usedPart", "()D"⟩ ∈ lw_g := mG 510 (by decide +kernel) rfl
theorem w_511 : Cond.selects "LinkHarbour" ⟨"LinkHarbour", "usedPart", "()D"⟩ ⟨"LinkHarbour", "usedPart", "()D"⟩ ∈ lw_g := mG 511 (by decide +kernel) rfl
theorem w_521 : Cond.methodLink "LinkHarbourLaw" 207 ⟨"LinkHarbour", "digest", "()J"⟩ ∈ lw_g := mG 521 (by decide +kernel) rfl
theorem w_522 : Cond.instanceMethod ⟨"LinkHarbour", "digest", "()J"⟩ ∈ lw_g := mG 522 (by decide +kernel) rfl
theorem w_523 : Cond.selects "LinkHarbour" ⟨"LinkHarbour", "digest", "()J"⟩ ⟨"LinkHarbour", "digest", "()J"⟩ ∈ lw_g := mG 523 (by decide +kernel) rfl
theorem w_1247 : Cond.methodLink "LinkHarbourLaw" 106 ⟨"LinkHarbourLaw", "object", "(LLinkHarbour;[J)I"⟩ ∈ lw_g := mG 1247 (by decide +kernel) rfl
theorem w_1248 : Cond.static ⟨"LinkHarbourLaw", "object", "(LLinkHarbour;[J)I"⟩ ∈ lw_g := mG 1248 (by decide +kernel) rfl
theorem w_1264 : Cond.methodLink "LinkHarbourLaw" 115 ⟨"LinkHarbourLaw", "section", "(LLinkHarbour;IIZ[J)I"⟩ ∈ lw_g := mG 1264 (by decide +kernel) rfl
theorem w_1265 : Cond.static ⟨"LinkHarbourLaw", "section", "(LLinkHarbour;IIZ[J)I"⟩ ∈ lw_g := mG 1265 (by decide +kernel) rfl
theorem w_1287 : Cond.methodLink "LinkHarbourLaw" 119 ⟨"LinkHarbourLaw", "fill", "(LLinkHarbour;II[J)I"⟩ ∈ lw_g := mG 1287 (by decide +kernel) rfl
theorem w_1288 : Cond.static ⟨"LinkHarbourLaw", "fill", "(LLinkHarbour;II[J)I"⟩ ∈ lw_g := mG 1288 (by decide +kernel) rfl
theorem w_1306 : Cond.methodLink "LinkHarbourLaw" 123 ⟨"LinkHarbourLaw", "word", "(LLinkHarbour;IIIZ[J)I"⟩ ∈ lw_g := mG 1306 (by decide +kernel) rfl
theorem w_1307 : Cond.static ⟨"LinkHarbourLaw", "word", "(LLinkHarbour;IIIZ[J)I"⟩ ∈ lw_g := mG 1307 (by decide +kernel) rfl
theorem w_1322 : Cond.methodLink "LinkHarbourLaw" 127 ⟨"LinkHarbourLaw", "jump", "(LLinkHarbour;IIZ[J)I"⟩ ∈ lw_g := mG 1322 (by decide +kernel) rfl
theorem w_1323 : Cond.static ⟨"LinkHarbourLaw", "jump", "(LLinkHarbour;IIZ[J)I"⟩ ∈ lw_g := mG 1323 (by decide +kernel) rfl
theorem w_1329 : Cond.methodLink "LinkHarbourLaw" 130 ⟨"LinkHarbourLaw", "define", "(LLinkHarbour;IIZZ[J)I"⟩ ∈ lw_g := mG 1329 (by decide +kernel) rfl
theorem w_1330 : Cond.static ⟨"LinkHarbourLaw", "define", "(LLinkHarbour;IIZZ[J)I"⟩ ∈ lw_g := mG 1330 (by decide +kernel) rfl
theorem w_1346 : Cond.methodLink "LinkHarbourLaw" 134 ⟨"LinkHarbourLaw", "common", "(LLinkHarbour;IIII[J)I"⟩ ∈ lw_g := mG 1346 (by decide +kernel) rfl
theorem w_1347 : Cond.static ⟨"LinkHarbourLaw", "common", "(LLinkHarbour;IIII[J)I"⟩ ∈ lw_g := mG 1347 (by decide +kernel) rfl
theorem w_1359 : Cond.methodLink "LinkHarbourLaw" 138 ⟨"LinkHarbourLaw", "item", "(LLinkHarbour;II[J)I"⟩ ∈ lw_g := mG 1359 (by decide +kernel) rfl
theorem w_1360 : Cond.static ⟨"LinkHarbourLaw", "item", "(LLinkHarbour;II[J)I"⟩ ∈ lw_g := mG 1360 (by decide +kernel) rfl
theorem w_1385 : Cond.methodLink "LinkHarbourLaw" 145 ⟨"LinkHarbourLaw", "ofObject", "(LLinkHarbour;II[J)I"⟩ ∈ lw_g := mG 1385 (by decide +kernel) rfl
theorem w_1386 : Cond.static ⟨"LinkHarbourLaw", "ofObject", "(LLinkHarbour;II[J)I"⟩ ∈ lw_g := mG 1386 (by decide +kernel) rfl
theorem w_1389 : Cond.methodLink "LinkHarbourLaw" 148 ⟨"LinkHarbourLaw", "bounds", "(LLinkHarbour;II[J)I"⟩ ∈ lw_g := mG 1389 (by decide +kernel) rfl
theorem w_1390 : Cond.static ⟨"LinkHarbourLaw", "bounds", "(LLinkHarbour;II[J)I"⟩ ∈ lw_g := mG 1390 (by decide +kernel) rfl
theorem w_1397 : Cond.methodLink "LinkHarbourLaw" 151 ⟨"LinkHarbourLaw", "link", "(LLinkHarbour;IZ[J)I"⟩ ∈ lw_g := mG 1397 (by decide +kernel) rfl
theorem w_1398 : Cond.static ⟨"LinkHarbourLaw", "link", "(LLinkHarbour;IZ[J)I"⟩ ∈ lw_g := mG 1398 (by decide +kernel) rfl
theorem w_1424 : Cond.methodLink "LinkHarbourLaw" 155 ⟨"LinkHarbourLaw", "ofSection", "(LLinkHarbour;II[J)I"⟩ ∈ lw_g := mG 1424 (by decide +kernel) rfl
theorem w_1425 : Cond.static ⟨"LinkHarbourLaw", "ofSection", "(LLinkHarbour;II[J)I"⟩ ∈ lw_g := mG 1425 (by decide +kernel) rfl
theorem w_1428 : Cond.methodLink "LinkHarbourLaw" 158 ⟨"LinkHarbourLaw", "ofName", "(LLinkHarbour;II[J)I"⟩ ∈ lw_g := mG 1428 (by decide +kernel) rfl
theorem w_1429 : Cond.static ⟨"LinkHarbourLaw", "ofName", "(LLinkHarbour;II[J)I"⟩ ∈ lw_g := mG 1429 (by decide +kernel) rfl
theorem w_1432 : Cond.methodLink "LinkHarbourLaw" 161 ⟨"LinkHarbourLaw", "fault", "(LLinkHarbour;II[J)I"⟩ ∈ lw_g := mG 1432 (by decide +kernel) rfl
theorem w_1433 : Cond.static ⟨"LinkHarbourLaw", "fault", "(LLinkHarbour;II[J)I"⟩ ∈ lw_g := mG 1433 (by decide +kernel) rfl
theorem w_1436 : Cond.methodLink "LinkHarbourLaw" 164 ⟨"LinkHarbourLaw", "wordAt", "(LLinkHarbour;I[J)I"⟩ ∈ lw_g := mG 1436 (by decide +kernel) rfl
theorem w_1437 : Cond.static ⟨"LinkHarbourLaw", "wordAt", "(LLinkHarbour;I[J)I"⟩ ∈ lw_g := mG 1437 (by decide +kernel) rfl
theorem w_1440 : Cond.methodLink "LinkHarbourLaw" 168 ⟨"LinkHarbourLaw", "publish", "(LLinkHarbour;I[J)I"⟩ ∈ lw_g := mG 1440 (by decide +kernel) rfl
theorem w_1441 : Cond.static ⟨"LinkHarbourLaw", "publish", "(LLinkHarbour;I[J)I"⟩ ∈ lw_g := mG 1441 (by decide +kernel) rfl
theorem w_1463 : Cond.methodLink "LinkHarbourLaw" 171 ⟨"LinkHarbourLaw", "open", "(LLinkHarbour;IZ[J)I"⟩ ∈ lw_g := mG 1463 (by decide +kernel) rfl
theorem w_1464 : Cond.static ⟨"LinkHarbourLaw", "open", "(LLinkHarbour;IZ[J)I"⟩ ∈ lw_g := mG 1464 (by decide +kernel) rfl
theorem w_1492 : Cond.methodLink "LinkHarbourLaw" 174 ⟨"LinkHarbourLaw", "close", "(LLinkHarbour;I[J)I"⟩ ∈ lw_g := mG 1492 (by decide +kernel) rfl
theorem w_1493 : Cond.static ⟨"LinkHarbourLaw", "close", "(LLinkHarbour;I[J)I"⟩ ∈ lw_g := mG 1493 (by decide +kernel) rfl
theorem w_1512 : Cond.methodLink "LinkHarbourLaw" 177 ⟨"LinkHarbourLaw", "call", "(LLinkHarbour;II[J)I"⟩ ∈ lw_g := mG 1512 (by decide +kernel) rfl
theorem w_1513 : Cond.static ⟨"LinkHarbourLaw", "call", "(LLinkHarbour;II[J)I"⟩ ∈ lw_g := mG 1513 (by decide +kernel) rfl
theorem w_1525 : Cond.methodLink "LinkHarbourLaw" 180 ⟨"LinkHarbourLaw", "ofBinding", "(LLinkHarbour;III[J)I"⟩ ∈ lw_g := mG 1525 (by decide +kernel) rfl
theorem w_1526 : Cond.static ⟨"LinkHarbourLaw", "ofBinding", "(LLinkHarbour;III[J)I"⟩ ∈ lw_g := mG 1526 (by decide +kernel) rfl
theorem w_1529 : Cond.methodLink "LinkHarbourLaw" 184 ⟨"LinkHarbourLaw", "ofLibrary", "(LLinkHarbour;II[J)I"⟩ ∈ lw_g := mG 1529 (by decide +kernel) rfl
theorem w_1530 : Cond.static ⟨"LinkHarbourLaw", "ofLibrary", "(LLinkHarbour;II[J)I"⟩ ∈ lw_g := mG 1530 (by decide +kernel) rfl
theorem w_1533 : Cond.methodLink "LinkHarbourLaw" 187 ⟨"LinkHarbourLaw", "many", "(LLinkHarbour;I[J)I"⟩ ∈ lw_g := mG 1533 (by decide +kernel) rfl
theorem w_1534 : Cond.static ⟨"LinkHarbourLaw", "many", "(LLinkHarbour;I[J)I"⟩ ∈ lw_g := mG 1534 (by decide +kernel) rfl
theorem w_1537 : Cond.methodLink "LinkHarbourLaw" 195 ⟨"LinkHarbourLaw", "sizeWith", "(LLinkHarbour;I[J)I"⟩ ∈ lw_g := mG 1537 (by decide +kernel) rfl
theorem w_1538 : Cond.static ⟨"LinkHarbourLaw", "sizeWith", "(LLinkHarbour;I[J)I"⟩ ∈ lw_g := mG 1538 (by decide +kernel) rfl
theorem w_1541 : Cond.methodLink "LinkHarbourLaw" 198 ⟨"LinkHarbourLaw", "faultsWithout", "(LLinkHarbour;I[J)I"⟩ ∈ lw_g := mG 1541 (by decide +kernel) rfl
theorem w_1542 : Cond.static ⟨"LinkHarbourLaw", "faultsWithout", "(LLinkHarbour;I[J)I"⟩ ∈ lw_g := mG 1542 (by decide +kernel) rfl
theorem w_1545 : Cond.methodLink "LinkHarbourLaw" 201 ⟨"LinkHarbourLaw", "goes", "(LLinkHarbour;I[J)I"⟩ ∈ lw_g := mG 1545 (by decide +kernel) rfl
theorem w_1546 : Cond.static ⟨"LinkHarbourLaw", "goes", "(LLinkHarbour;I[J)I"⟩ ∈ lw_g := mG 1546 (by decide +kernel) rfl
theorem w_1549 : Cond.methodLink "LinkHarbourLaw" 204 ⟨"LinkHarbourLaw", "wouldBind", "(LLinkHarbour;II[J)I"⟩ ∈ lw_g := mG 1549 (by decide +kernel) rfl
theorem w_1550 : Cond.static ⟨"LinkHarbourLaw", "wouldBind", "(LLinkHarbour;II[J)I"⟩ ∈ lw_g := mG 1550 (by decide +kernel) rfl
theorem w_1553 : Cond.classLink "LinkHarbourLaw" 103 "LinkHarbourModel" ∈ lw_g := mG 1553 (by decide +kernel) rfl
theorem w_1554 : Cond.instantiable "LinkHarbourModel" 30 ∈ lw_g := mG 1554 (by decide +kernel) rfl
theorem w_1555 : Cond.methodLink "LinkHarbourLaw" 105 ⟨"LinkHarbourModel", "<init>", "()V"⟩ ∈ lw_g := mG 1555 (by decide +kernel) rfl
theorem w_1556 : Cond.instanceMethod ⟨"LinkHarbourModel", "<init>", "()V"⟩ ∈ lw_g := mG 1556 (by decide +kernel) rfl
theorem w_1664 : Cond.methodLink "LinkHarbourLaw" 112 ⟨"LinkHarbourModel", "thrown", "()I"⟩ ∈ lw_g := mG 1664 (by decide +kernel) rfl
theorem w_1665 : Cond.instanceMethod ⟨"LinkHarbourModel", "thrown", "()I"⟩ ∈ lw_g := mG 1665 (by decide +kernel) rfl
theorem w_1666 : Cond.selects "LinkHarbourModel" ⟨"LinkHarbourModel", "thrown", "()I"⟩ ⟨"LinkHarbourModel", "thrown", "()I"⟩ ∈ lw_g := mG 1666 (by decide +kernel) rfl
theorem w_1668 : Cond.methodLink "LinkHarbourLaw" 111 ⟨"LinkHarbourModel", "object", "()I"⟩ ∈ lw_g := mG 1668 (by decide +kernel) rfl
theorem w_1669 : Cond.instanceMethod ⟨"LinkHarbourModel", "object", "()I"⟩ ∈ lw_g := mG 1669 (by decide +kernel) rfl
theorem w_1670 : Cond.selects "LinkHarbourModel" ⟨"LinkHarbourModel", "object", "()I"⟩ ⟨"LinkHarbourModel", "object", "()I"⟩ ∈ lw_g := mG 1670 (by decide +kernel) rfl
theorem w_1676 : Cond.methodLink "LinkHarbourLaw" 118 ⟨"LinkHarbourModel", "section", "(IIZ)I"⟩ ∈ lw_g := mG 1676 (by decide +kernel) rfl
theorem w_1677 : Cond.instanceMethod ⟨"LinkHarbourModel", "section", "(IIZ)I"⟩ ∈ lw_g := mG 1677 (by decide +kernel) rfl
theorem w_1678 : Cond.selects "LinkHarbourModel" ⟨"LinkHarbourModel", "section", "(IIZ)I"⟩ ⟨"LinkHarbourModel", "section", "(IIZ)I"⟩ ∈ lw_g := mG 1678 (by decide +kernel) rfl
theorem w_1690 : Cond.methodLink "LinkHarbourLaw" 122 ⟨"LinkHarbourModel", "fill", "(II)I"⟩ ∈ lw_g := mG 1690 (by decide +kernel) rfl
theorem w_1691 : Cond.instanceMethod ⟨"LinkHarbourModel", "fill", "(II)I"⟩ ∈ lw_g := mG 1691 (by decide +kernel) rfl
theorem w_1692 : Cond.selects "LinkHarbourModel" ⟨"LinkHarbourModel", "fill", "(II)I"⟩ ⟨"LinkHarbourModel", "fill", "(II)I"⟩ ∈ lw_g := mG 1692 (by decide +kernel) rfl
theorem w_1702 : Cond.methodLink "LinkHarbourLaw" 126 ⟨"LinkHarbourModel", "word", "(IIIZ)I"⟩ ∈ lw_g := mG 1702 (by decide +kernel) rfl
theorem w_1703 : Cond.instanceMethod ⟨"LinkHarbourModel", "word", "(IIIZ)I"⟩ ∈ lw_g := mG 1703 (by decide +kernel) rfl
theorem w_1704 : Cond.selects "LinkHarbourModel" ⟨"LinkHarbourModel", "word", "(IIIZ)I"⟩ ⟨"LinkHarbourModel", "word", "(IIIZ)I"⟩ ∈ lw_g := mG 1704 (by decide +kernel) rfl
theorem w_1709 : Cond.methodLink "LinkHarbourLaw" 129 ⟨"LinkHarbourModel", "jump", "(IIZ)I"⟩ ∈ lw_g := mG 1709 (by decide +kernel) rfl
theorem w_1710 : Cond.instanceMethod ⟨"LinkHarbourModel", "jump", "(IIZ)I"⟩ ∈ lw_g := mG 1710 (by decide +kernel) rfl
theorem w_1711 : Cond.selects "LinkHarbourModel" ⟨"LinkHarbourModel", "jump", "(IIZ)I"⟩ ⟨"LinkHarbourModel", "jump", "(IIZ)I"⟩ ∈ lw_g := mG 1711 (by decide +kernel) rfl
theorem w_1713 : Cond.methodLink "LinkHarbourLaw" 133 ⟨"LinkHarbourModel", "define", "(IIZZ)I"⟩ ∈ lw_g := mG 1713 (by decide +kernel) rfl
theorem w_1714 : Cond.instanceMethod ⟨"LinkHarbourModel", "define", "(IIZZ)I"⟩ ∈ lw_g := mG 1714 (by decide +kernel) rfl
theorem w_1715 : Cond.selects "LinkHarbourModel" ⟨"LinkHarbourModel", "define", "(IIZZ)I"⟩ ⟨"LinkHarbourModel", "define", "(IIZZ)I"⟩ ∈ lw_g := mG 1715 (by decide +kernel) rfl
theorem w_1721 : Cond.methodLink "LinkHarbourLaw" 137 ⟨"LinkHarbourModel", "common", "(IIII)I"⟩ ∈ lw_g := mG 1721 (by decide +kernel) rfl
theorem w_1722 : Cond.instanceMethod ⟨"LinkHarbourModel", "common", "(IIII)I"⟩ ∈ lw_g := mG 1722 (by decide +kernel) rfl
theorem w_1723 : Cond.selects "LinkHarbourModel" ⟨"LinkHarbourModel", "common", "(IIII)I"⟩ ⟨"LinkHarbourModel", "common", "(IIII)I"⟩ ∈ lw_g := mG 1723 (by decide +kernel) rfl
theorem w_1729 : Cond.methodLink "LinkHarbourLaw" 140 ⟨"LinkHarbourModel", "item", "(II)I"⟩ ∈ lw_g := mG 1729 (by decide +kernel) rfl
theorem w_1730 : Cond.instanceMethod ⟨"LinkHarbourModel", "item", "(II)I"⟩ ∈ lw_g := mG 1730 (by decide +kernel) rfl
theorem w_1731 : Cond.selects "LinkHarbourModel" ⟨"LinkHarbourModel", "item", "(II)I"⟩ ⟨"LinkHarbourModel", "item", "(II)I"⟩ ∈ lw_g := mG 1731 (by decide +kernel) rfl
theorem w_1733 : Cond.methodLink "LinkHarbourLaw" 144 ⟨"LinkHarbourModel", "clear", "()I"⟩ ∈ lw_g := mG 1733 (by decide +kernel) rfl
theorem w_1734 : Cond.instanceMethod ⟨"LinkHarbourModel", "clear", "()I"⟩ ∈ lw_g := mG 1734 (by decide +kernel) rfl
theorem w_1735 : Cond.selects "LinkHarbourModel" ⟨"LinkHarbourModel", "clear", "()I"⟩ ⟨"LinkHarbourModel", "clear", "()I"⟩ ∈ lw_g := mG 1735 (by decide +kernel) rfl
theorem w_1737 : Cond.methodLink "LinkHarbourLaw" 147 ⟨"LinkHarbourModel", "ofObject", "(II)I"⟩ ∈ lw_g := mG 1737 (by decide +kernel) rfl
theorem w_1738 : Cond.instanceMethod ⟨"LinkHarbourModel", "ofObject", "(II)I"⟩ ∈ lw_g := mG 1738 (by decide +kernel) rfl
theorem w_1739 : Cond.selects "LinkHarbourModel" ⟨"LinkHarbourModel", "ofObject", "(II)I"⟩ ⟨"LinkHarbourModel", "ofObject", "(II)I"⟩ ∈ lw_g := mG 1739 (by decide +kernel) rfl
theorem w_1756 : Cond.methodLink "LinkHarbourLaw" 150 ⟨"LinkHarbourModel", "bounds", "(II)I"⟩ ∈ lw_g := mG 1756 (by decide +kernel) rfl
theorem w_1757 : Cond.instanceMethod ⟨"LinkHarbourModel", "bounds", "(II)I"⟩ ∈ lw_g := mG 1757 (by decide +kernel) rfl
theorem w_1758 : Cond.selects "LinkHarbourModel" ⟨"LinkHarbourModel", "bounds", "(II)I"⟩ ⟨"LinkHarbourModel", "bounds", "(II)I"⟩ ∈ lw_g := mG 1758 (by decide +kernel) rfl
theorem w_1760 : Cond.methodLink "LinkHarbourLaw" 154 ⟨"LinkHarbourModel", "link", "(IZ)I"⟩ ∈ lw_g := mG 1760 (by decide +kernel) rfl
theorem w_1761 : Cond.instanceMethod ⟨"LinkHarbourModel", "link", "(IZ)I"⟩ ∈ lw_g := mG 1761 (by decide +kernel) rfl
theorem w_1762 : Cond.selects "LinkHarbourModel" ⟨"LinkHarbourModel", "link", "(IZ)I"⟩ ⟨"LinkHarbourModel", "link", "(IZ)I"⟩ ∈ lw_g := mG 1762 (by decide +kernel) rfl
theorem w_1947 : Cond.methodLink "LinkHarbourLaw" 157 ⟨"LinkHarbourModel", "ofSection", "(II)I"⟩ ∈ lw_g := mG 1947 (by decide +kernel) rfl
theorem w_1948 : Cond.instanceMethod ⟨"LinkHarbourModel", "ofSection", "(II)I"⟩ ∈ lw_g := mG 1948 (by decide +kernel) rfl
theorem w_1949 : Cond.selects "LinkHarbourModel" ⟨"LinkHarbourModel", "ofSection", "(II)I"⟩ ⟨"LinkHarbourModel", "ofSection", "(II)I"⟩ ∈ lw_g := mG 1949 (by decide +kernel) rfl
theorem w_1955 : Cond.methodLink "LinkHarbourLaw" 160 ⟨"LinkHarbourModel", "ofName", "(II)I"⟩ ∈ lw_g := mG 1955 (by decide +kernel) rfl
theorem w_1956 : Cond.instanceMethod ⟨"LinkHarbourModel", "ofName", "(II)I"⟩ ∈ lw_g := mG 1956 (by decide +kernel) rfl
theorem w_1957 : Cond.selects "LinkHarbourModel" ⟨"LinkHarbourModel", "ofName", "(II)I"⟩ ⟨"LinkHarbourModel", "ofName", "(II)I"⟩ ∈ lw_g := mG 1957 (by decide +kernel) rfl
theorem w_1967 : Cond.methodLink "LinkHarbourLaw" 163 ⟨"LinkHarbourModel", "fault", "(II)I"⟩ ∈ lw_g := mG 1967 (by decide +kernel) rfl
theorem w_1968 : Cond.instanceMethod ⟨"LinkHarbourModel", "fault", "(II)I"⟩ ∈ lw_g := mG 1968 (by decide +kernel) rfl
theorem w_1969 : Cond.selects "LinkHarbourModel" ⟨"LinkHarbourModel", "fault", "(II)I"⟩ ⟨"LinkHarbourModel", "fault", "(II)I"⟩ ∈ lw_g := mG 1969 (by decide +kernel) rfl
theorem w_1971 : Cond.methodLink "LinkHarbourLaw" 167 ⟨"LinkHarbourModel", "wordAt", "(I)I"⟩ ∈ lw_g := mG 1971 (by decide +kernel) rfl
theorem w_1972 : Cond.instanceMethod ⟨"LinkHarbourModel", "wordAt", "(I)I"⟩ ∈ lw_g := mG 1972 (by decide +kernel) rfl
theorem w_1973 : Cond.selects "LinkHarbourModel" ⟨"LinkHarbourModel", "wordAt", "(I)I"⟩ ⟨"LinkHarbourModel", "wordAt", "(I)I"⟩ ∈ lw_g := mG 1973 (by decide +kernel) rfl
theorem w_1975 : Cond.methodLink "LinkHarbourLaw" 170 ⟨"LinkHarbourModel", "publish", "(I)I"⟩ ∈ lw_g := mG 1975 (by decide +kernel) rfl
theorem w_1976 : Cond.instanceMethod ⟨"LinkHarbourModel", "publish", "(I)I"⟩ ∈ lw_g := mG 1976 (by decide +kernel) rfl
theorem w_1977 : Cond.selects "LinkHarbourModel" ⟨"LinkHarbourModel", "publish", "(I)I"⟩ ⟨"LinkHarbourModel", "publish", "(I)I"⟩ ∈ lw_g := mG 1977 (by decide +kernel) rfl
theorem w_1979 : Cond.methodLink "LinkHarbourLaw" 173 ⟨"LinkHarbourModel", "open", "(IZ)I"⟩ ∈ lw_g := mG 1979 (by decide +kernel) rfl
theorem w_1980 : Cond.instanceMethod ⟨"LinkHarbourModel", "open", "(IZ)I"⟩ ∈ lw_g := mG 1980 (by decide +kernel) rfl
theorem w_1981 : Cond.selects "LinkHarbourModel" ⟨"LinkHarbourModel", "open", "(IZ)I"⟩ ⟨"LinkHarbourModel", "open", "(IZ)I"⟩ ∈ lw_g := mG 1981 (by decide +kernel) rfl
theorem w_2010 : Cond.methodLink "LinkHarbourLaw" 176 ⟨"LinkHarbourModel", "close", "(I)I"⟩ ∈ lw_g := mG 2010 (by decide +kernel) rfl
theorem w_2011 : Cond.instanceMethod ⟨"LinkHarbourModel", "close", "(I)I"⟩ ∈ lw_g := mG 2011 (by decide +kernel) rfl
theorem w_2012 : Cond.selects "LinkHarbourModel" ⟨"LinkHarbourModel", "close", "(I)I"⟩ ⟨"LinkHarbourModel", "close", "(I)I"⟩ ∈ lw_g := mG 2012 (by decide +kernel) rfl
theorem w_2021 : Cond.methodLink "LinkHarbourLaw" 179 ⟨"LinkHarbourModel", "call", "(II)I"⟩ ∈ lw_g := mG 2021 (by decide +kernel) rfl
theorem w_2022 : Cond.instanceMethod ⟨"LinkHarbourModel", "call", "(II)I"⟩ ∈ lw_g := mG 2022 (by decide +kernel) rfl
theorem w_2023 : Cond.selects "LinkHarbourModel" ⟨"LinkHarbourModel", "call", "(II)I"⟩ ⟨"LinkHarbourModel", "call", "(II)I"⟩ ∈ lw_g := mG 2023 (by decide +kernel) rfl
theorem w_2033 : Cond.methodLink "LinkHarbourLaw" 183 ⟨"LinkHarbourModel", "ofBinding", "(III)I"⟩ ∈ lw_g := mG 2033 (by decide +kernel) rfl
theorem w_2034 : Cond.instanceMethod ⟨"LinkHarbourModel", "ofBinding", "(III)I"⟩ ∈ lw_g := mG 2034 (by decide +kernel) rfl
theorem w_2035 : Cond.selects "LinkHarbourModel" ⟨"LinkHarbourModel", "ofBinding", "(III)I"⟩ ⟨"LinkHarbourModel", "ofBinding", "(III)I"⟩ ∈ lw_g := mG 2035 (by decide +kernel) rfl
theorem w_2041 : Cond.methodLink "LinkHarbourLaw" 186 ⟨"LinkHarbourModel", "ofLibrary", "(II)I"⟩ ∈ lw_g := mG 2041 (by decide +kernel) rfl
theorem w_2042 : Cond.instanceMethod ⟨"LinkHarbourModel", "ofLibrary", "(II)I"⟩ ∈ lw_g := mG 2042 (by decide +kernel) rfl
theorem w_2043 : Cond.selects "LinkHarbourModel" ⟨"LinkHarbourModel", "ofLibrary", "(II)I"⟩ ⟨"LinkHarbourModel", "ofLibrary", "(II)I"⟩ ∈ lw_g := mG 2043 (by decide +kernel) rfl
theorem w_2056 : Cond.methodLink "LinkHarbourLaw" 189 ⟨"LinkHarbourModel", "many", "(I)I"⟩ ∈ lw_g := mG 2056 (by decide +kernel) rfl
theorem w_2057 : Cond.instanceMethod ⟨"LinkHarbourModel", "many", "(I)I"⟩ ∈ lw_g := mG 2057 (by decide +kernel) rfl
theorem w_2058 : Cond.selects "LinkHarbourModel" ⟨"LinkHarbourModel", "many", "(I)I"⟩ ⟨"LinkHarbourModel", "many", "(I)I"⟩ ∈ lw_g := mG 2058 (by decide +kernel) rfl
theorem w_2072 : Cond.methodLink "LinkHarbourLaw" 194 ⟨"LinkHarbourModel", "usedPart", "()D"⟩ ∈ lw_g := mG 2072 (by decide +kernel) rfl
theorem w_2073 : Cond.instanceMethod ⟨"LinkHarbourModel", "usedPart", "()D"⟩ ∈ lw_g := mG 2073 (by decide +kernel) rfl
theorem w_2074 : Cond.selects "LinkHarbourModel" ⟨"LinkHarbourModel", "usedPart", "()D"⟩ ⟨"LinkHarbourModel", "usedPart", "()D"⟩ ∈ lw_g := mG 2074 (by decide +kernel) rfl
theorem w_2076 : Cond.methodLink "LinkHarbourLaw" 197 ⟨"LinkHarbourModel", "sizeWith", "(I)I"⟩ ∈ lw_g := mG 2076 (by decide +kernel) rfl
theorem w_2077 : Cond.instanceMethod ⟨"LinkHarbourModel", "sizeWith", "(I)I"⟩ ∈ lw_g := mG 2077 (by decide +kernel) rfl
theorem w_2078 : Cond.selects "LinkHarbourModel" ⟨"LinkHarbourModel", "sizeWith", "(I)I"⟩ ⟨"LinkHarbourModel", "sizeWith", "(I)I"⟩ ∈ lw_g := mG 2078 (by decide +kernel) rfl
theorem w_2080 : Cond.methodLink "LinkHarbourLaw" 200 ⟨"LinkHarbourModel", "faultsWithout", "(I)I"⟩ ∈ lw_g := mG 2080 (by decide +kernel) rfl
theorem w_2081 : Cond.instanceMethod ⟨"LinkHarbourModel", "faultsWithout", "(I)I"⟩ ∈ lw_g := mG 2081 (by decide +kernel) rfl
theorem w_2082 : Cond.selects "LinkHarbourModel" ⟨"LinkHarbourModel", "faultsWithout", "(I)I"⟩ ⟨"LinkHarbourModel", "faultsWithout", "(I)I"⟩ ∈ lw_g := mG 2082 (by decide +kernel) rfl
theorem w_2084 : Cond.methodLink "LinkHarbourLaw" 203 ⟨"LinkHarbourModel", "goes", "(I)I"⟩ ∈ lw_g := mG 2084 (by decide +kernel) rfl
theorem w_2085 : Cond.instanceMethod ⟨"LinkHarbourModel", "goes", "(I)I"⟩ ∈ lw_g := mG 2085 (by decide +kernel) rfl
theorem w_2086 : Cond.selects "LinkHarbourModel" ⟨"LinkHarbourModel", "goes", "(I)I"⟩ ⟨"LinkHarbourModel", "goes", "(I)I"⟩ ∈ lw_g := mG 2086 (by decide +kernel) rfl
theorem w_2088 : Cond.methodLink "LinkHarbourLaw" 206 ⟨"LinkHarbourModel", "wouldBind", "(II)I"⟩ ∈ lw_g := mG 2088 (by decide +kernel) rfl
theorem w_2089 : Cond.instanceMethod ⟨"LinkHarbourModel", "wouldBind", "(II)I"⟩ ∈ lw_g := mG 2089 (by decide +kernel) rfl
theorem w_2090 : Cond.selects "LinkHarbourModel" ⟨"LinkHarbourModel", "wouldBind", "(II)I"⟩ ⟨"LinkHarbourModel", "wouldBind", "(II)I"⟩ ∈ lw_g := mG 2090 (by decide +kernel) rfl
theorem w_2096 : Cond.methodLink "LinkHarbourLaw" 211 ⟨"LinkHarbourModel", "digest", "()J"⟩ ∈ lw_g := mG 2096 (by decide +kernel) rfl
theorem w_2097 : Cond.instanceMethod ⟨"LinkHarbourModel", "digest", "()J"⟩ ∈ lw_g := mG 2097 (by decide +kernel) rfl
theorem w_2098 : Cond.selects "LinkHarbourModel" ⟨"LinkHarbourModel", "digest", "()J"⟩ ⟨"LinkHarbourModel", "digest", "()J"⟩ ∈ lw_g := mG 2098 (by decide +kernel) rfl
theorem w_2102 : Cond.arrayClass .long ∈ lw_g := mG 2102 (by decide +kernel) rfl
theorem cz_160 : (mt 160).2.2.2.2 = [] := rfl
theorem cc_160 : Cond.code (mt 160).1 (mt 160).2.1 (mt 160).2.2.1 (mt 160).2.2.2.1 ∈ lw_g := mG 111 (by decide +kernel) rfl
theorem ci_160 : Cond.initialized (mt 160).1.cls ∈ lw_g := w_84
theorem cm_160 : Cond.instanceMethod (mt 160).1 ∈ lw_g := w_110
theorem cd_160 : (mt 160).1.cls ≠ "java/lang/invoke/MethodHandle" ∧ (mt 160).1.cls ≠ "java/lang/invoke/VarHandle" ∧ (parseMethodDescriptor (mt 160).1.desc).map (fun d => d.parameters.length) = some 0 := ⟨by decide +kernel, by decide +kernel, by decide +kernel⟩
theorem cl_160 : (mt 160).2.2.1 ≤ 45 := by decide
theorem cz_169 : (mt 169).2.2.2.2 = [] := rfl
theorem cc_169 : Cond.code (mt 169).1 (mt 169).2.1 (mt 169).2.2.1 (mt 169).2.2.2.1 ∈ lw_g := mG 504 (by decide +kernel) rfl
theorem ci_169 : Cond.initialized (mt 169).1.cls ∈ lw_g := w_84
theorem cm_169 : Cond.instanceMethod (mt 169).1 ∈ lw_g := w_502
theorem cs_169 : Cond.selects (mt 169).1.cls (mt 169).1 (mt 169).1 ∈ lw_g := w_503
theorem cd_169 : (mt 169).1.cls ≠ "java/lang/invoke/MethodHandle" ∧ (mt 169).1.cls ≠ "java/lang/invoke/VarHandle" ∧ (parseMethodDescriptor (mt 169).1.desc).map (fun d => d.parameters.length) = some 0 := ⟨by decide +kernel, by decide +kernel, by decide +kernel⟩
theorem cl_169 : (mt 169).2.2.1 ≤ 45 := by decide
theorem cz_184 : (mt 184).2.2.2.2 = [] := rfl
theorem cc_184 : Cond.code (mt 184).1 (mt 184).2.1 (mt 184).2.2.1 (mt 184).2.2.2.1 ∈ lw_g := mG 512 (by decide +kernel) rfl
theorem ci_184 : Cond.initialized (mt 184).1.cls ∈ lw_g := w_84
theorem cm_184 : Cond.instanceMethod (mt 184).1 ∈ lw_g := w_510
theorem cs_184 : Cond.selects (mt 184).1.cls (mt 184).1 (mt 184).1 ∈ lw_g := w_511
theorem cd_184 : (mt 184).1.cls ≠ "java/lang/invoke/MethodHandle" ∧ (mt 184).1.cls ≠ "java/lang/invoke/VarHandle" ∧ (parseMethodDescriptor (mt 184).1.desc).map (fun d => d.parameters.length) = some 0 := ⟨by decide +kernel, by decide +kernel, by decide +kernel⟩
theorem cl_184 : (mt 184).2.2.1 ≤ 45 := by decide
theorem cz_189 : (mt 189).2.2.2.2 = [] := rfl
theorem cc_189 : Cond.code (mt 189).1 (mt 189).2.1 (mt 189).2.2.1 (mt 189).2.2.2.1 ∈ lw_g := mG 524 (by decide +kernel) rfl
theorem ci_189 : Cond.initialized (mt 189).1.cls ∈ lw_g := w_84
theorem cm_189 : Cond.instanceMethod (mt 189).1 ∈ lw_g := w_522
theorem cs_189 : Cond.selects (mt 189).1.cls (mt 189).1 (mt 189).1 ∈ lw_g := w_523
theorem cd_189 : (mt 189).1.cls ≠ "java/lang/invoke/MethodHandle" ∧ (mt 189).1.cls ≠ "java/lang/invoke/VarHandle" ∧ (parseMethodDescriptor (mt 189).1.desc).map (fun d => d.parameters.length) = some 0 := ⟨by decide +kernel, by decide +kernel, by decide +kernel⟩
theorem cl_189 : (mt 189).2.2.1 ≤ 45 := by decide
theorem cz_227 : (mt 227).2.2.2.2 = [] := rfl
theorem cc_227 : Cond.code (mt 227).1 (mt 227).2.1 (mt 227).2.2.1 (mt 227).2.2.2.1 ∈ lw_g := mG 1557 (by decide +kernel) rfl
theorem ci_227 : Cond.initialized (mt 227).1.cls ∈ lw_g := w_96
theorem cm_227 : Cond.instanceMethod (mt 227).1 ∈ lw_g := w_1556
theorem cd_227 : (mt 227).1.cls ≠ "java/lang/invoke/MethodHandle" ∧ (mt 227).1.cls ≠ "java/lang/invoke/VarHandle" ∧ (parseMethodDescriptor (mt 227).1.desc).map (fun d => d.parameters.length) = some 0 := ⟨by decide +kernel, by decide +kernel, by decide +kernel⟩
theorem cl_227 : (mt 227).2.2.1 ≤ 45 := by decide
theorem cz_228 : (mt 228).2.2.2.2 = [] := rfl
theorem cc_228 : Cond.code (mt 228).1 (mt 228).2.1 (mt 228).2.2.1 (mt 228).2.2.2.1 ∈ lw_g := mG 1667 (by decide +kernel) rfl
theorem ci_228 : Cond.initialized (mt 228).1.cls ∈ lw_g := w_96
theorem cm_228 : Cond.instanceMethod (mt 228).1 ∈ lw_g := w_1665
theorem cs_228 : Cond.selects (mt 228).1.cls (mt 228).1 (mt 228).1 ∈ lw_g := w_1666
theorem cd_228 : (mt 228).1.cls ≠ "java/lang/invoke/MethodHandle" ∧ (mt 228).1.cls ≠ "java/lang/invoke/VarHandle" ∧ (parseMethodDescriptor (mt 228).1.desc).map (fun d => d.parameters.length) = some 0 := ⟨by decide +kernel, by decide +kernel, by decide +kernel⟩
theorem cl_228 : (mt 228).2.2.1 ≤ 45 := by decide
theorem cz_236 : (mt 236).2.2.2.2 = [] := rfl
theorem cc_236 : Cond.code (mt 236).1 (mt 236).2.1 (mt 236).2.2.1 (mt 236).2.2.2.1 ∈ lw_g := mG 1671 (by decide +kernel) rfl
theorem ci_236 : Cond.initialized (mt 236).1.cls ∈ lw_g := w_96
theorem cm_236 : Cond.instanceMethod (mt 236).1 ∈ lw_g := w_1669
theorem cs_236 : Cond.selects (mt 236).1.cls (mt 236).1 (mt 236).1 ∈ lw_g := w_1670
theorem cd_236 : (mt 236).1.cls ≠ "java/lang/invoke/MethodHandle" ∧ (mt 236).1.cls ≠ "java/lang/invoke/VarHandle" ∧ (parseMethodDescriptor (mt 236).1.desc).map (fun d => d.parameters.length) = some 0 := ⟨by decide +kernel, by decide +kernel, by decide +kernel⟩
theorem cl_236 : (mt 236).2.2.1 ≤ 45 := by decide
theorem cz_237 : (mt 237).2.2.2.2 = [] := rfl
theorem cc_237 : Cond.code (mt 237).1 (mt 237).2.1 (mt 237).2.2.1 (mt 237).2.2.2.1 ∈ lw_g := mG 1679 (by decide +kernel) rfl
theorem ci_237 : Cond.initialized (mt 237).1.cls ∈ lw_g := w_96
theorem cm_237 : Cond.instanceMethod (mt 237).1 ∈ lw_g := w_1677
theorem cs_237 : Cond.selects (mt 237).1.cls (mt 237).1 (mt 237).1 ∈ lw_g := w_1678
theorem cd_237 : (mt 237).1.cls ≠ "java/lang/invoke/MethodHandle" ∧ (mt 237).1.cls ≠ "java/lang/invoke/VarHandle" ∧ (parseMethodDescriptor (mt 237).1.desc).map (fun d => d.parameters.length) = some 3 := ⟨by decide +kernel, by decide +kernel, by decide +kernel⟩
theorem cl_237 : (mt 237).2.2.1 ≤ 45 := by decide
theorem cz_239 : (mt 239).2.2.2.2 = [] := rfl
theorem cc_239 : Cond.code (mt 239).1 (mt 239).2.1 (mt 239).2.2.1 (mt 239).2.2.2.1 ∈ lw_g := mG 1693 (by decide +kernel) rfl
theorem ci_239 : Cond.initialized (mt 239).1.cls ∈ lw_g := w_96
theorem cm_239 : Cond.instanceMethod (mt 239).1 ∈ lw_g := w_1691
theorem cs_239 : Cond.selects (mt 239).1.cls (mt 239).1 (mt 239).1 ∈ lw_g := w_1692
theorem cd_239 : (mt 239).1.cls ≠ "java/lang/invoke/MethodHandle" ∧ (mt 239).1.cls ≠ "java/lang/invoke/VarHandle" ∧ (parseMethodDescriptor (mt 239).1.desc).map (fun d => d.parameters.length) = some 2 := ⟨by decide +kernel, by decide +kernel, by decide +kernel⟩
theorem cl_239 : (mt 239).2.2.1 ≤ 45 := by decide
theorem cz_240 : (mt 240).2.2.2.2 = [] := rfl
theorem cc_240 : Cond.code (mt 240).1 (mt 240).2.1 (mt 240).2.2.1 (mt 240).2.2.2.1 ∈ lw_g := mG 1705 (by decide +kernel) rfl
theorem ci_240 : Cond.initialized (mt 240).1.cls ∈ lw_g := w_96
theorem cm_240 : Cond.instanceMethod (mt 240).1 ∈ lw_g := w_1703
theorem cs_240 : Cond.selects (mt 240).1.cls (mt 240).1 (mt 240).1 ∈ lw_g := w_1704
theorem cd_240 : (mt 240).1.cls ≠ "java/lang/invoke/MethodHandle" ∧ (mt 240).1.cls ≠ "java/lang/invoke/VarHandle" ∧ (parseMethodDescriptor (mt 240).1.desc).map (fun d => d.parameters.length) = some 4 := ⟨by decide +kernel, by decide +kernel, by decide +kernel⟩
theorem cl_240 : (mt 240).2.2.1 ≤ 45 := by decide
theorem cz_241 : (mt 241).2.2.2.2 = [] := rfl
theorem cc_241 : Cond.code (mt 241).1 (mt 241).2.1 (mt 241).2.2.1 (mt 241).2.2.2.1 ∈ lw_g := mG 1712 (by decide +kernel) rfl
theorem ci_241 : Cond.initialized (mt 241).1.cls ∈ lw_g := w_96
theorem cm_241 : Cond.instanceMethod (mt 241).1 ∈ lw_g := w_1710
theorem cs_241 : Cond.selects (mt 241).1.cls (mt 241).1 (mt 241).1 ∈ lw_g := w_1711
theorem cd_241 : (mt 241).1.cls ≠ "java/lang/invoke/MethodHandle" ∧ (mt 241).1.cls ≠ "java/lang/invoke/VarHandle" ∧ (parseMethodDescriptor (mt 241).1.desc).map (fun d => d.parameters.length) = some 3 := ⟨by decide +kernel, by decide +kernel, by decide +kernel⟩
theorem cl_241 : (mt 241).2.2.1 ≤ 45 := by decide
theorem cz_243 : (mt 243).2.2.2.2 = [] := rfl
theorem cc_243 : Cond.code (mt 243).1 (mt 243).2.1 (mt 243).2.2.1 (mt 243).2.2.2.1 ∈ lw_g := mG 1716 (by decide +kernel) rfl
theorem ci_243 : Cond.initialized (mt 243).1.cls ∈ lw_g := w_96
theorem cm_243 : Cond.instanceMethod (mt 243).1 ∈ lw_g := w_1714
theorem cs_243 : Cond.selects (mt 243).1.cls (mt 243).1 (mt 243).1 ∈ lw_g := w_1715
theorem cd_243 : (mt 243).1.cls ≠ "java/lang/invoke/MethodHandle" ∧ (mt 243).1.cls ≠ "java/lang/invoke/VarHandle" ∧ (parseMethodDescriptor (mt 243).1.desc).map (fun d => d.parameters.length) = some 4 := ⟨by decide +kernel, by decide +kernel, by decide +kernel⟩
theorem cl_243 : (mt 243).2.2.1 ≤ 45 := by decide
theorem cz_245 : (mt 245).2.2.2.2 = [] := rfl
theorem cc_245 : Cond.code (mt 245).1 (mt 245).2.1 (mt 245).2.2.1 (mt 245).2.2.2.1 ∈ lw_g := mG 1724 (by decide +kernel) rfl
theorem ci_245 : Cond.initialized (mt 245).1.cls ∈ lw_g := w_96
theorem cm_245 : Cond.instanceMethod (mt 245).1 ∈ lw_g := w_1722
theorem cs_245 : Cond.selects (mt 245).1.cls (mt 245).1 (mt 245).1 ∈ lw_g := w_1723
theorem cd_245 : (mt 245).1.cls ≠ "java/lang/invoke/MethodHandle" ∧ (mt 245).1.cls ≠ "java/lang/invoke/VarHandle" ∧ (parseMethodDescriptor (mt 245).1.desc).map (fun d => d.parameters.length) = some 4 := ⟨by decide +kernel, by decide +kernel, by decide +kernel⟩
theorem cl_245 : (mt 245).2.2.1 ≤ 45 := by decide
theorem cz_247 : (mt 247).2.2.2.2 = [] := rfl
theorem cc_247 : Cond.code (mt 247).1 (mt 247).2.1 (mt 247).2.2.1 (mt 247).2.2.2.1 ∈ lw_g := mG 1732 (by decide +kernel) rfl
theorem ci_247 : Cond.initialized (mt 247).1.cls ∈ lw_g := w_96
theorem cm_247 : Cond.instanceMethod (mt 247).1 ∈ lw_g := w_1730
theorem cs_247 : Cond.selects (mt 247).1.cls (mt 247).1 (mt 247).1 ∈ lw_g := w_1731
theorem cd_247 : (mt 247).1.cls ≠ "java/lang/invoke/MethodHandle" ∧ (mt 247).1.cls ≠ "java/lang/invoke/VarHandle" ∧ (parseMethodDescriptor (mt 247).1.desc).map (fun d => d.parameters.length) = some 2 := ⟨by decide +kernel, by decide +kernel, by decide +kernel⟩
theorem cl_247 : (mt 247).2.2.1 ≤ 45 := by decide
theorem cz_248 : (mt 248).2.2.2.2 = [] := rfl
theorem cc_248 : Cond.code (mt 248).1 (mt 248).2.1 (mt 248).2.2.1 (mt 248).2.2.2.1 ∈ lw_g := mG 1736 (by decide +kernel) rfl
theorem ci_248 : Cond.initialized (mt 248).1.cls ∈ lw_g := w_96
theorem cm_248 : Cond.instanceMethod (mt 248).1 ∈ lw_g := w_1734
theorem cs_248 : Cond.selects (mt 248).1.cls (mt 248).1 (mt 248).1 ∈ lw_g := w_1735
theorem cd_248 : (mt 248).1.cls ≠ "java/lang/invoke/MethodHandle" ∧ (mt 248).1.cls ≠ "java/lang/invoke/VarHandle" ∧ (parseMethodDescriptor (mt 248).1.desc).map (fun d => d.parameters.length) = some 0 := ⟨by decide +kernel, by decide +kernel, by decide +kernel⟩
theorem cl_248 : (mt 248).2.2.1 ≤ 45 := by decide
theorem cz_251 : (mt 251).2.2.2.2 = [] := rfl
theorem cc_251 : Cond.code (mt 251).1 (mt 251).2.1 (mt 251).2.2.1 (mt 251).2.2.2.1 ∈ lw_g := mG 1740 (by decide +kernel) rfl
theorem ci_251 : Cond.initialized (mt 251).1.cls ∈ lw_g := w_96
theorem cm_251 : Cond.instanceMethod (mt 251).1 ∈ lw_g := w_1738
theorem cs_251 : Cond.selects (mt 251).1.cls (mt 251).1 (mt 251).1 ∈ lw_g := w_1739
theorem cd_251 : (mt 251).1.cls ≠ "java/lang/invoke/MethodHandle" ∧ (mt 251).1.cls ≠ "java/lang/invoke/VarHandle" ∧ (parseMethodDescriptor (mt 251).1.desc).map (fun d => d.parameters.length) = some 2 := ⟨by decide +kernel, by decide +kernel, by decide +kernel⟩
theorem cl_251 : (mt 251).2.2.1 ≤ 45 := by decide
theorem cz_252 : (mt 252).2.2.2.2 = [] := rfl
theorem cc_252 : Cond.code (mt 252).1 (mt 252).2.1 (mt 252).2.2.1 (mt 252).2.2.2.1 ∈ lw_g := mG 1759 (by decide +kernel) rfl
theorem ci_252 : Cond.initialized (mt 252).1.cls ∈ lw_g := w_96
theorem cm_252 : Cond.instanceMethod (mt 252).1 ∈ lw_g := w_1757
theorem cs_252 : Cond.selects (mt 252).1.cls (mt 252).1 (mt 252).1 ∈ lw_g := w_1758
theorem cd_252 : (mt 252).1.cls ≠ "java/lang/invoke/MethodHandle" ∧ (mt 252).1.cls ≠ "java/lang/invoke/VarHandle" ∧ (parseMethodDescriptor (mt 252).1.desc).map (fun d => d.parameters.length) = some 2 := ⟨by decide +kernel, by decide +kernel, by decide +kernel⟩
theorem cl_252 : (mt 252).2.2.1 ≤ 45 := by decide
theorem cz_253 : (mt 253).2.2.2.2 = [] := rfl
theorem cc_253 : Cond.code (mt 253).1 (mt 253).2.1 (mt 253).2.2.1 (mt 253).2.2.2.1 ∈ lw_g := mG 1763 (by decide +kernel) rfl
theorem ci_253 : Cond.initialized (mt 253).1.cls ∈ lw_g := w_96
theorem cm_253 : Cond.instanceMethod (mt 253).1 ∈ lw_g := w_1761
theorem cs_253 : Cond.selects (mt 253).1.cls (mt 253).1 (mt 253).1 ∈ lw_g := w_1762
theorem cd_253 : (mt 253).1.cls ≠ "java/lang/invoke/MethodHandle" ∧ (mt 253).1.cls ≠ "java/lang/invoke/VarHandle" ∧ (parseMethodDescriptor (mt 253).1.desc).map (fun d => d.parameters.length) = some 2 := ⟨by decide +kernel, by decide +kernel, by decide +kernel⟩
theorem cl_253 : (mt 253).2.2.1 ≤ 45 := by decide
theorem cz_255 : (mt 255).2.2.2.2 = [] := rfl
theorem cc_255 : Cond.code (mt 255).1 (mt 255).2.1 (mt 255).2.2.1 (mt 255).2.2.2.1 ∈ lw_g := mG 1950 (by decide +kernel) rfl
theorem ci_255 : Cond.initialized (mt 255).1.cls ∈ lw_g := w_96
theorem cm_255 : Cond.instanceMethod (mt 255).1 ∈ lw_g := w_1948
theorem cs_255 : Cond.selects (mt 255).1.cls (mt 255).1 (mt 255).1 ∈ lw_g := w_1949
theorem cd_255 : (mt 255).1.cls ≠ "java/lang/invoke/MethodHandle" ∧ (mt 255).1.cls ≠ "java/lang/invoke/VarHandle" ∧ (parseMethodDescriptor (mt 255).1.desc).map (fun d => d.parameters.length) = some 2 := ⟨by decide +kernel, by decide +kernel, by decide +kernel⟩
theorem cl_255 : (mt 255).2.2.1 ≤ 45 := by decide
theorem cz_257 : (mt 257).2.2.2.2 = [] := rfl
theorem cc_257 : Cond.code (mt 257).1 (mt 257).2.1 (mt 257).2.2.1 (mt 257).2.2.2.1 ∈ lw_g := mG 1958 (by decide +kernel) rfl
theorem ci_257 : Cond.initialized (mt 257).1.cls ∈ lw_g := w_96
theorem cm_257 : Cond.instanceMethod (mt 257).1 ∈ lw_g := w_1956
theorem cs_257 : Cond.selects (mt 257).1.cls (mt 257).1 (mt 257).1 ∈ lw_g := w_1957
theorem cd_257 : (mt 257).1.cls ≠ "java/lang/invoke/MethodHandle" ∧ (mt 257).1.cls ≠ "java/lang/invoke/VarHandle" ∧ (parseMethodDescriptor (mt 257).1.desc).map (fun d => d.parameters.length) = some 2 := ⟨by decide +kernel, by decide +kernel, by decide +kernel⟩
theorem cl_257 : (mt 257).2.2.1 ≤ 45 := by decide
theorem cz_258 : (mt 258).2.2.2.2 = [] := rfl
theorem cc_258 : Cond.code (mt 258).1 (mt 258).2.1 (mt 258).2.2.1 (mt 258).2.2.2.1 ∈ lw_g := mG 1970 (by decide +kernel) rfl
theorem ci_258 : Cond.initialized (mt 258).1.cls ∈ lw_g := w_96
theorem cm_258 : Cond.instanceMethod (mt 258).1 ∈ lw_g := w_1968
theorem cs_258 : Cond.selects (mt 258).1.cls (mt 258).1 (mt 258).1 ∈ lw_g := w_1969
theorem cd_258 : (mt 258).1.cls ≠ "java/lang/invoke/MethodHandle" ∧ (mt 258).1.cls ≠ "java/lang/invoke/VarHandle" ∧ (parseMethodDescriptor (mt 258).1.desc).map (fun d => d.parameters.length) = some 2 := ⟨by decide +kernel, by decide +kernel, by decide +kernel⟩
theorem cl_258 : (mt 258).2.2.1 ≤ 45 := by decide
theorem cz_259 : (mt 259).2.2.2.2 = [] := rfl
theorem cc_259 : Cond.code (mt 259).1 (mt 259).2.1 (mt 259).2.2.1 (mt 259).2.2.2.1 ∈ lw_g := mG 1974 (by decide +kernel) rfl
theorem ci_259 : Cond.initialized (mt 259).1.cls ∈ lw_g := w_96
theorem cm_259 : Cond.instanceMethod (mt 259).1 ∈ lw_g := w_1972
theorem cs_259 : Cond.selects (mt 259).1.cls (mt 259).1 (mt 259).1 ∈ lw_g := w_1973
theorem cd_259 : (mt 259).1.cls ≠ "java/lang/invoke/MethodHandle" ∧ (mt 259).1.cls ≠ "java/lang/invoke/VarHandle" ∧ (parseMethodDescriptor (mt 259).1.desc).map (fun d => d.parameters.length) = some 1 := ⟨by decide +kernel, by decide +kernel, by decide +kernel⟩
theorem cl_259 : (mt 259).2.2.1 ≤ 45 := by decide
theorem cz_262 : (mt 262).2.2.2.2 = [] := rfl
theorem cc_262 : Cond.code (mt 262).1 (mt 262).2.1 (mt 262).2.2.1 (mt 262).2.2.2.1 ∈ lw_g := mG 1978 (by decide +kernel) rfl
theorem ci_262 : Cond.initialized (mt 262).1.cls ∈ lw_g := w_96
theorem cm_262 : Cond.instanceMethod (mt 262).1 ∈ lw_g := w_1976
theorem cs_262 : Cond.selects (mt 262).1.cls (mt 262).1 (mt 262).1 ∈ lw_g := w_1977
theorem cd_262 : (mt 262).1.cls ≠ "java/lang/invoke/MethodHandle" ∧ (mt 262).1.cls ≠ "java/lang/invoke/VarHandle" ∧ (parseMethodDescriptor (mt 262).1.desc).map (fun d => d.parameters.length) = some 1 := ⟨by decide +kernel, by decide +kernel, by decide +kernel⟩
theorem cl_262 : (mt 262).2.2.1 ≤ 45 := by decide
theorem cz_269 : (mt 269).2.2.2.2 = [] := rfl
theorem cc_269 : Cond.code (mt 269).1 (mt 269).2.1 (mt 269).2.2.1 (mt 269).2.2.2.1 ∈ lw_g := mG 1982 (by decide +kernel) rfl
theorem ci_269 : Cond.initialized (mt 269).1.cls ∈ lw_g := w_96
theorem cm_269 : Cond.instanceMethod (mt 269).1 ∈ lw_g := w_1980
theorem cs_269 : Cond.selects (mt 269).1.cls (mt 269).1 (mt 269).1 ∈ lw_g := w_1981
theorem cd_269 : (mt 269).1.cls ≠ "java/lang/invoke/MethodHandle" ∧ (mt 269).1.cls ≠ "java/lang/invoke/VarHandle" ∧ (parseMethodDescriptor (mt 269).1.desc).map (fun d => d.parameters.length) = some 2 := ⟨by decide +kernel, by decide +kernel, by decide +kernel⟩
theorem cl_269 : (mt 269).2.2.1 ≤ 45 := by decide
theorem cz_271 : (mt 271).2.2.2.2 = [] := rfl
theorem cc_271 : Cond.code (mt 271).1 (mt 271).2.1 (mt 271).2.2.1 (mt 271).2.2.2.1 ∈ lw_g := mG 2013 (by decide +kernel) rfl
theorem ci_271 : Cond.initialized (mt 271).1.cls ∈ lw_g := w_96
theorem cm_271 : Cond.instanceMethod (mt 271).1 ∈ lw_g := w_2011
theorem cs_271 : Cond.selects (mt 271).1.cls (mt 271).1 (mt 271).1 ∈ lw_g := w_2012
theorem cd_271 : (mt 271).1.cls ≠ "java/lang/invoke/MethodHandle" ∧ (mt 271).1.cls ≠ "java/lang/invoke/VarHandle" ∧ (parseMethodDescriptor (mt 271).1.desc).map (fun d => d.parameters.length) = some 1 := ⟨by decide +kernel, by decide +kernel, by decide +kernel⟩
theorem cl_271 : (mt 271).2.2.1 ≤ 45 := by decide
theorem cz_274 : (mt 274).2.2.2.2 = [] := rfl
theorem cc_274 : Cond.code (mt 274).1 (mt 274).2.1 (mt 274).2.2.1 (mt 274).2.2.2.1 ∈ lw_g := mG 2024 (by decide +kernel) rfl
theorem ci_274 : Cond.initialized (mt 274).1.cls ∈ lw_g := w_96
theorem cm_274 : Cond.instanceMethod (mt 274).1 ∈ lw_g := w_2022
theorem cs_274 : Cond.selects (mt 274).1.cls (mt 274).1 (mt 274).1 ∈ lw_g := w_2023
theorem cd_274 : (mt 274).1.cls ≠ "java/lang/invoke/MethodHandle" ∧ (mt 274).1.cls ≠ "java/lang/invoke/VarHandle" ∧ (parseMethodDescriptor (mt 274).1.desc).map (fun d => d.parameters.length) = some 2 := ⟨by decide +kernel, by decide +kernel, by decide +kernel⟩
theorem cl_274 : (mt 274).2.2.1 ≤ 45 := by decide
theorem cz_276 : (mt 276).2.2.2.2 = [] := rfl
theorem cc_276 : Cond.code (mt 276).1 (mt 276).2.1 (mt 276).2.2.1 (mt 276).2.2.2.1 ∈ lw_g := mG 2036 (by decide +kernel) rfl
theorem ci_276 : Cond.initialized (mt 276).1.cls ∈ lw_g := w_96
theorem cm_276 : Cond.instanceMethod (mt 276).1 ∈ lw_g := w_2034
theorem cs_276 : Cond.selects (mt 276).1.cls (mt 276).1 (mt 276).1 ∈ lw_g := w_2035
theorem cd_276 : (mt 276).1.cls ≠ "java/lang/invoke/MethodHandle" ∧ (mt 276).1.cls ≠ "java/lang/invoke/VarHandle" ∧ (parseMethodDescriptor (mt 276).1.desc).map (fun d => d.parameters.length) = some 3 := ⟨by decide +kernel, by decide +kernel, by decide +kernel⟩
theorem cl_276 : (mt 276).2.2.1 ≤ 45 := by decide
theorem cz_280 : (mt 280).2.2.2.2 = [] := rfl
theorem cc_280 : Cond.code (mt 280).1 (mt 280).2.1 (mt 280).2.2.1 (mt 280).2.2.2.1 ∈ lw_g := mG 2044 (by decide +kernel) rfl
theorem ci_280 : Cond.initialized (mt 280).1.cls ∈ lw_g := w_96
theorem cm_280 : Cond.instanceMethod (mt 280).1 ∈ lw_g := w_2042
theorem cs_280 : Cond.selects (mt 280).1.cls (mt 280).1 (mt 280).1 ∈ lw_g := w_2043
theorem cd_280 : (mt 280).1.cls ≠ "java/lang/invoke/MethodHandle" ∧ (mt 280).1.cls ≠ "java/lang/invoke/VarHandle" ∧ (parseMethodDescriptor (mt 280).1.desc).map (fun d => d.parameters.length) = some 2 := ⟨by decide +kernel, by decide +kernel, by decide +kernel⟩
theorem cl_280 : (mt 280).2.2.1 ≤ 45 := by decide
theorem cz_282 : (mt 282).2.2.2.2 = [] := rfl
theorem cc_282 : Cond.code (mt 282).1 (mt 282).2.1 (mt 282).2.2.1 (mt 282).2.2.2.1 ∈ lw_g := mG 2059 (by decide +kernel) rfl
theorem ci_282 : Cond.initialized (mt 282).1.cls ∈ lw_g := w_96
theorem cm_282 : Cond.instanceMethod (mt 282).1 ∈ lw_g := w_2057
theorem cs_282 : Cond.selects (mt 282).1.cls (mt 282).1 (mt 282).1 ∈ lw_g := w_2058
theorem cd_282 : (mt 282).1.cls ≠ "java/lang/invoke/MethodHandle" ∧ (mt 282).1.cls ≠ "java/lang/invoke/VarHandle" ∧ (parseMethodDescriptor (mt 282).1.desc).map (fun d => d.parameters.length) = some 1 := ⟨by decide +kernel, by decide +kernel, by decide +kernel⟩
theorem cl_282 : (mt 282).2.2.1 ≤ 45 := by decide
theorem cz_283 : (mt 283).2.2.2.2 = [] := rfl
theorem cc_283 : Cond.code (mt 283).1 (mt 283).2.1 (mt 283).2.2.1 (mt 283).2.2.2.1 ∈ lw_g := mG 2075 (by decide +kernel) rfl
theorem ci_283 : Cond.initialized (mt 283).1.cls ∈ lw_g := w_96
theorem cm_283 : Cond.instanceMethod (mt 283).1 ∈ lw_g := w_2073
theorem cs_283 : Cond.selects (mt 283).1.cls (mt 283).1 (mt 283).1 ∈ lw_g := w_2074
theorem cd_283 : (mt 283).1.cls ≠ "java/lang/invoke/MethodHandle" ∧ (mt 283).1.cls ≠ "java/lang/invoke/VarHandle" ∧ (parseMethodDescriptor (mt 283).1.desc).map (fun d => d.parameters.length) = some 0 := ⟨by decide +kernel, by decide +kernel, by decide +kernel⟩
theorem cl_283 : (mt 283).2.2.1 ≤ 45 := by decide
theorem cz_284 : (mt 284).2.2.2.2 = [] := rfl
theorem cc_284 : Cond.code (mt 284).1 (mt 284).2.1 (mt 284).2.2.1 (mt 284).2.2.2.1 ∈ lw_g := mG 2079 (by decide +kernel) rfl
theorem ci_284 : Cond.initialized (mt 284).1.cls ∈ lw_g := w_96
theorem cm_284 : Cond.instanceMethod (mt 284).1 ∈ lw_g := w_2077
theorem cs_284 : Cond.selects (mt 284).1.cls (mt 284).1 (mt 284).1 ∈ lw_g := w_2078
theorem cd_284 : (mt 284).1.cls ≠ "java/lang/invoke/MethodHandle" ∧ (mt 284).1.cls ≠ "java/lang/invoke/VarHandle" ∧ (parseMethodDescriptor (mt 284).1.desc).map (fun d => d.parameters.length) = some 1 := ⟨by decide +kernel, by decide +kernel, by decide +kernel⟩
theorem cl_284 : (mt 284).2.2.1 ≤ 45 := by decide
theorem cz_285 : (mt 285).2.2.2.2 = [] := rfl
theorem cc_285 : Cond.code (mt 285).1 (mt 285).2.1 (mt 285).2.2.1 (mt 285).2.2.2.1 ∈ lw_g := mG 2083 (by decide +kernel) rfl
theorem ci_285 : Cond.initialized (mt 285).1.cls ∈ lw_g := w_96
theorem cm_285 : Cond.instanceMethod (mt 285).1 ∈ lw_g := w_2081
theorem cs_285 : Cond.selects (mt 285).1.cls (mt 285).1 (mt 285).1 ∈ lw_g := w_2082
theorem cd_285 : (mt 285).1.cls ≠ "java/lang/invoke/MethodHandle" ∧ (mt 285).1.cls ≠ "java/lang/invoke/VarHandle" ∧ (parseMethodDescriptor (mt 285).1.desc).map (fun d => d.parameters.length) = some 1 := ⟨by decide +kernel, by decide +kernel, by decide +kernel⟩
theorem cl_285 : (mt 285).2.2.1 ≤ 45 := by decide
theorem cz_286 : (mt 286).2.2.2.2 = [] := rfl
theorem cc_286 : Cond.code (mt 286).1 (mt 286).2.1 (mt 286).2.2.1 (mt 286).2.2.2.1 ∈ lw_g := mG 2087 (by decide +kernel) rfl
theorem ci_286 : Cond.initialized (mt 286).1.cls ∈ lw_g := w_96
theorem cm_286 : Cond.instanceMethod (mt 286).1 ∈ lw_g := w_2085
theorem cs_286 : Cond.selects (mt 286).1.cls (mt 286).1 (mt 286).1 ∈ lw_g := w_2086
theorem cd_286 : (mt 286).1.cls ≠ "java/lang/invoke/MethodHandle" ∧ (mt 286).1.cls ≠ "java/lang/invoke/VarHandle" ∧ (parseMethodDescriptor (mt 286).1.desc).map (fun d => d.parameters.length) = some 1 := ⟨by decide +kernel, by decide +kernel, by decide +kernel⟩
theorem cl_286 : (mt 286).2.2.1 ≤ 45 := by decide
theorem cz_288 : (mt 288).2.2.2.2 = [] := rfl
theorem cc_288 : Cond.code (mt 288).1 (mt 288).2.1 (mt 288).2.2.1 (mt 288).2.2.2.1 ∈ lw_g := mG 2091 (by decide +kernel) rfl
theorem ci_288 : Cond.initialized (mt 288).1.cls ∈ lw_g := w_96
theorem cm_288 : Cond.instanceMethod (mt 288).1 ∈ lw_g := w_2089
theorem cs_288 : Cond.selects (mt 288).1.cls (mt 288).1 (mt 288).1 ∈ lw_g := w_2090
theorem cd_288 : (mt 288).1.cls ≠ "java/lang/invoke/MethodHandle" ∧ (mt 288).1.cls ≠ "java/lang/invoke/VarHandle" ∧ (parseMethodDescriptor (mt 288).1.desc).map (fun d => d.parameters.length) = some 2 := ⟨by decide +kernel, by decide +kernel, by decide +kernel⟩
theorem cl_288 : (mt 288).2.2.1 ≤ 45 := by decide
theorem cz_289 : (mt 289).2.2.2.2 = [] := rfl
theorem cc_289 : Cond.code (mt 289).1 (mt 289).2.1 (mt 289).2.2.1 (mt 289).2.2.2.1 ∈ lw_g := mG 2099 (by decide +kernel) rfl
theorem ci_289 : Cond.initialized (mt 289).1.cls ∈ lw_g := w_96
theorem cm_289 : Cond.instanceMethod (mt 289).1 ∈ lw_g := w_2097
theorem cs_289 : Cond.selects (mt 289).1.cls (mt 289).1 (mt 289).1 ∈ lw_g := w_2098
theorem cd_289 : (mt 289).1.cls ≠ "java/lang/invoke/MethodHandle" ∧ (mt 289).1.cls ≠ "java/lang/invoke/VarHandle" ∧ (parseMethodDescriptor (mt 289).1.desc).map (fun d => d.parameters.length) = some 0 := ⟨by decide +kernel, by decide +kernel, by decide +kernel⟩
theorem cl_289 : (mt 289).2.2.1 ≤ 45 := by decide
theorem cz_293 : (mt 293).2.2.2.2 ≠ [] := by decide
theorem cc_293 : Cond.codeWith (mt 293).1 (mt 293).2.1 (mt 293).2.2.1 (mt 293).2.2.2.1 (mt 293).2.2.2.2 ∈ lw_g := mG 1249 (by decide +kernel) rfl
theorem ci_293 : Cond.initialized (mt 293).1.cls ∈ lw_g := w_83
theorem cm_293 : Cond.static (mt 293).1 ∈ lw_g := w_1248
theorem cd_293 : (mt 293).1.cls ≠ "java/lang/invoke/MethodHandle" ∧ (mt 293).1.cls ≠ "java/lang/invoke/VarHandle" ∧ (parseMethodDescriptor (mt 293).1.desc).map (fun d => d.parameters.length) = some 2 := ⟨by decide +kernel, by decide +kernel, by decide +kernel⟩
theorem cl_293 : (mt 293).2.2.1 ≤ 45 := by decide
theorem cz_294 : (mt 294).2.2.2.2 ≠ [] := by decide
theorem cc_294 : Cond.codeWith (mt 294).1 (mt 294).2.1 (mt 294).2.2.1 (mt 294).2.2.2.1 (mt 294).2.2.2.2 ∈ lw_g := mG 1266 (by decide +kernel) rfl
theorem ci_294 : Cond.initialized (mt 294).1.cls ∈ lw_g := w_83
theorem cm_294 : Cond.static (mt 294).1 ∈ lw_g := w_1265
theorem cd_294 : (mt 294).1.cls ≠ "java/lang/invoke/MethodHandle" ∧ (mt 294).1.cls ≠ "java/lang/invoke/VarHandle" ∧ (parseMethodDescriptor (mt 294).1.desc).map (fun d => d.parameters.length) = some 5 := ⟨by decide +kernel, by decide +kernel, by decide +kernel⟩
theorem cl_294 : (mt 294).2.2.1 ≤ 45 := by decide
theorem cz_295 : (mt 295).2.2.2.2 ≠ [] := by decide
theorem cc_295 : Cond.codeWith (mt 295).1 (mt 295).2.1 (mt 295).2.2.1 (mt 295).2.2.2.1 (mt 295).2.2.2.2 ∈ lw_g := mG 1289 (by decide +kernel) rfl
theorem ci_295 : Cond.initialized (mt 295).1.cls ∈ lw_g := w_83
theorem cm_295 : Cond.static (mt 295).1 ∈ lw_g := w_1288
theorem cd_295 : (mt 295).1.cls ≠ "java/lang/invoke/MethodHandle" ∧ (mt 295).1.cls ≠ "java/lang/invoke/VarHandle" ∧ (parseMethodDescriptor (mt 295).1.desc).map (fun d => d.parameters.length) = some 4 := ⟨by decide +kernel, by decide +kernel, by decide +kernel⟩
theorem cl_295 : (mt 295).2.2.1 ≤ 45 := by decide
theorem cz_296 : (mt 296).2.2.2.2 ≠ [] := by decide
theorem cc_296 : Cond.codeWith (mt 296).1 (mt 296).2.1 (mt 296).2.2.1 (mt 296).2.2.2.1 (mt 296).2.2.2.2 ∈ lw_g := mG 1308 (by decide +kernel) rfl
theorem ci_296 : Cond.initialized (mt 296).1.cls ∈ lw_g := w_83
theorem cm_296 : Cond.static (mt 296).1 ∈ lw_g := w_1307
theorem cd_296 : (mt 296).1.cls ≠ "java/lang/invoke/MethodHandle" ∧ (mt 296).1.cls ≠ "java/lang/invoke/VarHandle" ∧ (parseMethodDescriptor (mt 296).1.desc).map (fun d => d.parameters.length) = some 6 := ⟨by decide +kernel, by decide +kernel, by decide +kernel⟩
theorem cl_296 : (mt 296).2.2.1 ≤ 45 := by decide
theorem cz_297 : (mt 297).2.2.2.2 ≠ [] := by decide
theorem cc_297 : Cond.codeWith (mt 297).1 (mt 297).2.1 (mt 297).2.2.1 (mt 297).2.2.2.1 (mt 297).2.2.2.2 ∈ lw_g := mG 1324 (by decide +kernel) rfl
theorem ci_297 : Cond.initialized (mt 297).1.cls ∈ lw_g := w_83
theorem cm_297 : Cond.static (mt 297).1 ∈ lw_g := w_1323
theorem cd_297 : (mt 297).1.cls ≠ "java/lang/invoke/MethodHandle" ∧ (mt 297).1.cls ≠ "java/lang/invoke/VarHandle" ∧ (parseMethodDescriptor (mt 297).1.desc).map (fun d => d.parameters.length) = some 5 := ⟨by decide +kernel, by decide +kernel, by decide +kernel⟩
theorem cl_297 : (mt 297).2.2.1 ≤ 45 := by decide
theorem cz_298 : (mt 298).2.2.2.2 ≠ [] := by decide
theorem cc_298 : Cond.codeWith (mt 298).1 (mt 298).2.1 (mt 298).2.2.1 (mt 298).2.2.2.1 (mt 298).2.2.2.2 ∈ lw_g := mG 1331 (by decide +kernel) rfl
theorem ci_298 : Cond.initialized (mt 298).1.cls ∈ lw_g := w_83
theorem cm_298 : Cond.static (mt 298).1 ∈ lw_g := w_1330
theorem cd_298 : (mt 298).1.cls ≠ "java/lang/invoke/MethodHandle" ∧ (mt 298).1.cls ≠ "java/lang/invoke/VarHandle" ∧ (parseMethodDescriptor (mt 298).1.desc).map (fun d => d.parameters.length) = some 6 := ⟨by decide +kernel, by decide +kernel, by decide +kernel⟩
theorem cl_298 : (mt 298).2.2.1 ≤ 45 := by decide
theorem cz_299 : (mt 299).2.2.2.2 ≠ [] := by decide
theorem cc_299 : Cond.codeWith (mt 299).1 (mt 299).2.1 (mt 299).2.2.1 (mt 299).2.2.2.1 (mt 299).2.2.2.2 ∈ lw_g := mG 1348 (by decide +kernel) rfl
theorem ci_299 : Cond.initialized (mt 299).1.cls ∈ lw_g := w_83
theorem cm_299 : Cond.static (mt 299).1 ∈ lw_g := w_1347
theorem cd_299 : (mt 299).1.cls ≠ "java/lang/invoke/MethodHandle" ∧ (mt 299).1.cls ≠ "java/lang/invoke/VarHandle" ∧ (parseMethodDescriptor (mt 299).1.desc).map (fun d => d.parameters.length) = some 6 := ⟨by decide +kernel, by decide +kernel, by decide +kernel⟩
theorem cl_299 : (mt 299).2.2.1 ≤ 45 := by decide
theorem cz_300 : (mt 300).2.2.2.2 ≠ [] := by decide
theorem cc_300 : Cond.codeWith (mt 300).1 (mt 300).2.1 (mt 300).2.2.1 (mt 300).2.2.2.1 (mt 300).2.2.2.2 ∈ lw_g := mG 1361 (by decide +kernel) rfl
theorem ci_300 : Cond.initialized (mt 300).1.cls ∈ lw_g := w_83
theorem cm_300 : Cond.static (mt 300).1 ∈ lw_g := w_1360
theorem cd_300 : (mt 300).1.cls ≠ "java/lang/invoke/MethodHandle" ∧ (mt 300).1.cls ≠ "java/lang/invoke/VarHandle" ∧ (parseMethodDescriptor (mt 300).1.desc).map (fun d => d.parameters.length) = some 4 := ⟨by decide +kernel, by decide +kernel, by decide +kernel⟩
theorem cl_300 : (mt 300).2.2.1 ≤ 45 := by decide
theorem cz_301 : (mt 301).2.2.2.2 ≠ [] := by decide
theorem cc_301 : Cond.codeWith (mt 301).1 (mt 301).2.1 (mt 301).2.2.1 (mt 301).2.2.2.1 (mt 301).2.2.2.2 ∈ lw_g := mG 1387 (by decide +kernel) rfl
theorem ci_301 : Cond.initialized (mt 301).1.cls ∈ lw_g := w_83
theorem cm_301 : Cond.static (mt 301).1 ∈ lw_g := w_1386
theorem cd_301 : (mt 301).1.cls ≠ "java/lang/invoke/MethodHandle" ∧ (mt 301).1.cls ≠ "java/lang/invoke/VarHandle" ∧ (parseMethodDescriptor (mt 301).1.desc).map (fun d => d.parameters.length) = some 4 := ⟨by decide +kernel, by decide +kernel, by decide +kernel⟩
theorem cl_301 : (mt 301).2.2.1 ≤ 45 := by decide
theorem cz_302 : (mt 302).2.2.2.2 ≠ [] := by decide
theorem cc_302 : Cond.codeWith (mt 302).1 (mt 302).2.1 (mt 302).2.2.1 (mt 302).2.2.2.1 (mt 302).2.2.2.2 ∈ lw_g := mG 1391 (by decide +kernel) rfl
theorem ci_302 : Cond.initialized (mt 302).1.cls ∈ lw_g := w_83
theorem cm_302 : Cond.static (mt 302).1 ∈ lw_g := w_1390
theorem cd_302 : (mt 302).1.cls ≠ "java/lang/invoke/MethodHandle" ∧ (mt 302).1.cls ≠ "java/lang/invoke/VarHandle" ∧ (parseMethodDescriptor (mt 302).1.desc).map (fun d => d.parameters.length) = some 4 := ⟨by decide +kernel, by decide +kernel, by decide +kernel⟩
theorem cl_302 : (mt 302).2.2.1 ≤ 45 := by decide
theorem cz_303 : (mt 303).2.2.2.2 ≠ [] := by decide
theorem cc_303 : Cond.codeWith (mt 303).1 (mt 303).2.1 (mt 303).2.2.1 (mt 303).2.2.2.1 (mt 303).2.2.2.2 ∈ lw_g := mG 1399 (by decide +kernel) rfl
theorem ci_303 : Cond.initialized (mt 303).1.cls ∈ lw_g := w_83
theorem cm_303 : Cond.static (mt 303).1 ∈ lw_g := w_1398
theorem cd_303 : (mt 303).1.cls ≠ "java/lang/invoke/MethodHandle" ∧ (mt 303).1.cls ≠ "java/lang/invoke/VarHandle" ∧ (parseMethodDescriptor (mt 303).1.desc).map (fun d => d.parameters.length) = some 4 := ⟨by decide +kernel, by decide +kernel, by decide +kernel⟩
theorem cl_303 : (mt 303).2.2.1 ≤ 45 := by decide
theorem cz_304 : (mt 304).2.2.2.2 ≠ [] := by decide
theorem cc_304 : Cond.codeWith (mt 304).1 (mt 304).2.1 (mt 304).2.2.1 (mt 304).2.2.2.1 (mt 304).2.2.2.2 ∈ lw_g := mG 1426 (by decide +kernel) rfl
theorem ci_304 : Cond.initialized (mt 304).1.cls ∈ lw_g := w_83
theorem cm_304 : Cond.static (mt 304).1 ∈ lw_g := w_1425
theorem cd_304 : (mt 304).1.cls ≠ "java/lang/invoke/MethodHandle" ∧ (mt 304).1.cls ≠ "java/lang/invoke/VarHandle" ∧ (parseMethodDescriptor (mt 304).1.desc).map (fun d => d.parameters.length) = some 4 := ⟨by decide +kernel, by decide +kernel, by decide +kernel⟩
theorem cl_304 : (mt 304).2.2.1 ≤ 45 := by decide
theorem cz_305 : (mt 305).2.2.2.2 ≠ [] := by decide
theorem cc_305 : Cond.codeWith (mt 305).1 (mt 305).2.1 (mt 305).2.2.1 (mt 305).2.2.2.1 (mt 305).2.2.2.2 ∈ lw_g := mG 1430 (by decide +kernel) rfl
theorem ci_305 : Cond.initialized (mt 305).1.cls ∈ lw_g := w_83
theorem cm_305 : Cond.static (mt 305).1 ∈ lw_g := w_1429
theorem cd_305 : (mt 305).1.cls ≠ "java/lang/invoke/MethodHandle" ∧ (mt 305).1.cls ≠ "java/lang/invoke/VarHandle" ∧ (parseMethodDescriptor (mt 305).1.desc).map (fun d => d.parameters.length) = some 4 := ⟨by decide +kernel, by decide +kernel, by decide +kernel⟩
theorem cl_305 : (mt 305).2.2.1 ≤ 45 := by decide
theorem cz_306 : (mt 306).2.2.2.2 ≠ [] := by decide
theorem cc_306 : Cond.codeWith (mt 306).1 (mt 306).2.1 (mt 306).2.2.1 (mt 306).2.2.2.1 (mt 306).2.2.2.2 ∈ lw_g := mG 1434 (by decide +kernel) rfl
theorem ci_306 : Cond.initialized (mt 306).1.cls ∈ lw_g := w_83
theorem cm_306 : Cond.static (mt 306).1 ∈ lw_g := w_1433
theorem cd_306 : (mt 306).1.cls ≠ "java/lang/invoke/MethodHandle" ∧ (mt 306).1.cls ≠ "java/lang/invoke/VarHandle" ∧ (parseMethodDescriptor (mt 306).1.desc).map (fun d => d.parameters.length) = some 4 := ⟨by decide +kernel, by decide +kernel, by decide +kernel⟩
theorem cl_306 : (mt 306).2.2.1 ≤ 45 := by decide
theorem cz_307 : (mt 307).2.2.2.2 ≠ [] := by decide
theorem cc_307 : Cond.codeWith (mt 307).1 (mt 307).2.1 (mt 307).2.2.1 (mt 307).2.2.2.1 (mt 307).2.2.2.2 ∈ lw_g := mG 1438 (by decide +kernel) rfl
theorem ci_307 : Cond.initialized (mt 307).1.cls ∈ lw_g := w_83
theorem cm_307 : Cond.static (mt 307).1 ∈ lw_g := w_1437
theorem cd_307 : (mt 307).1.cls ≠ "java/lang/invoke/MethodHandle" ∧ (mt 307).1.cls ≠ "java/lang/invoke/VarHandle" ∧ (parseMethodDescriptor (mt 307).1.desc).map (fun d => d.parameters.length) = some 3 := ⟨by decide +kernel, by decide +kernel, by decide +kernel⟩
theorem cl_307 : (mt 307).2.2.1 ≤ 45 := by decide
theorem cz_308 : (mt 308).2.2.2.2 ≠ [] := by decide
theorem cc_308 : Cond.codeWith (mt 308).1 (mt 308).2.1 (mt 308).2.2.1 (mt 308).2.2.2.1 (mt 308).2.2.2.2 ∈ lw_g := mG 1442 (by decide +kernel) rfl
theorem ci_308 : Cond.initialized (mt 308).1.cls ∈ lw_g := w_83
theorem cm_308 : Cond.static (mt 308).1 ∈ lw_g := w_1441
theorem cd_308 : (mt 308).1.cls ≠ "java/lang/invoke/MethodHandle" ∧ (mt 308).1.cls ≠ "java/lang/invoke/VarHandle" ∧ (parseMethodDescriptor (mt 308).1.desc).map (fun d => d.parameters.length) = some 3 := ⟨by decide +kernel, by decide +kernel, by decide +kernel⟩
theorem cl_308 : (mt 308).2.2.1 ≤ 45 := by decide
theorem cz_309 : (mt 309).2.2.2.2 ≠ [] := by decide
theorem cc_309 : Cond.codeWith (mt 309).1 (mt 309).2.1 (mt 309).2.2.1 (mt 309).2.2.2.1 (mt 309).2.2.2.2 ∈ lw_g := mG 1465 (by decide +kernel) rfl
theorem ci_309 : Cond.initialized (mt 309).1.cls ∈ lw_g := w_83
theorem cm_309 : Cond.static (mt 309).1 ∈ lw_g := w_1464
theorem cd_309 : (mt 309).1.cls ≠ "java/lang/invoke/MethodHandle" ∧ (mt 309).1.cls ≠ "java/lang/invoke/VarHandle" ∧ (parseMethodDescriptor (mt 309).1.desc).map (fun d => d.parameters.length) = some 4 := ⟨by decide +kernel, by decide +kernel, by decide +kernel⟩
theorem cl_309 : (mt 309).2.2.1 ≤ 45 := by decide
theorem cz_310 : (mt 310).2.2.2.2 ≠ [] := by decide
theorem cc_310 : Cond.codeWith (mt 310).1 (mt 310).2.1 (mt 310).2.2.1 (mt 310).2.2.2.1 (mt 310).2.2.2.2 ∈ lw_g := mG 1494 (by decide +kernel) rfl
theorem ci_310 : Cond.initialized (mt 310).1.cls ∈ lw_g := w_83
theorem cm_310 : Cond.static (mt 310).1 ∈ lw_g := w_1493
theorem cd_310 : (mt 310).1.cls ≠ "java/lang/invoke/MethodHandle" ∧ (mt 310).1.cls ≠ "java/lang/invoke/VarHandle" ∧ (parseMethodDescriptor (mt 310).1.desc).map (fun d => d.parameters.length) = some 3 := ⟨by decide +kernel, by decide +kernel, by decide +kernel⟩
theorem cl_310 : (mt 310).2.2.1 ≤ 45 := by decide
theorem cz_311 : (mt 311).2.2.2.2 ≠ [] := by decide
theorem cc_311 : Cond.codeWith (mt 311).1 (mt 311).2.1 (mt 311).2.2.1 (mt 311).2.2.2.1 (mt 311).2.2.2.2 ∈ lw_g := mG 1514 (by decide +kernel) rfl
theorem ci_311 : Cond.initialized (mt 311).1.cls ∈ lw_g := w_83
theorem cm_311 : Cond.static (mt 311).1 ∈ lw_g := w_1513
theorem cd_311 : (mt 311).1.cls ≠ "java/lang/invoke/MethodHandle" ∧ (mt 311).1.cls ≠ "java/lang/invoke/VarHandle" ∧ (parseMethodDescriptor (mt 311).1.desc).map (fun d => d.parameters.length) = some 4 := ⟨by decide +kernel, by decide +kernel, by decide +kernel⟩
theorem cl_311 : (mt 311).2.2.1 ≤ 45 := by decide
theorem cz_312 : (mt 312).2.2.2.2 ≠ [] := by decide
theorem cc_312 : Cond.codeWith (mt 312).1 (mt 312).2.1 (mt 312).2.2.1 (mt 312).2.2.2.1 (mt 312).2.2.2.2 ∈ lw_g := mG 1527 (by decide +kernel) rfl
theorem ci_312 : Cond.initialized (mt 312).1.cls ∈ lw_g := w_83
theorem cm_312 : Cond.static (mt 312).1 ∈ lw_g := w_1526
theorem cd_312 : (mt 312).1.cls ≠ "java/lang/invoke/MethodHandle" ∧ (mt 312).1.cls ≠ "java/lang/invoke/VarHandle" ∧ (parseMethodDescriptor (mt 312).1.desc).map (fun d => d.parameters.length) = some 5 := ⟨by decide +kernel, by decide +kernel, by decide +kernel⟩
theorem cl_312 : (mt 312).2.2.1 ≤ 45 := by decide
theorem cz_313 : (mt 313).2.2.2.2 ≠ [] := by decide
theorem cc_313 : Cond.codeWith (mt 313).1 (mt 313).2.1 (mt 313).2.2.1 (mt 313).2.2.2.1 (mt 313).2.2.2.2 ∈ lw_g := mG 1531 (by decide +kernel) rfl
theorem ci_313 : Cond.initialized (mt 313).1.cls ∈ lw_g := w_83
theorem cm_313 : Cond.static (mt 313).1 ∈ lw_g := w_1530
theorem cd_313 : (mt 313).1.cls ≠ "java/lang/invoke/MethodHandle" ∧ (mt 313).1.cls ≠ "java/lang/invoke/VarHandle" ∧ (parseMethodDescriptor (mt 313).1.desc).map (fun d => d.parameters.length) = some 4 := ⟨by decide +kernel, by decide +kernel, by decide +kernel⟩
theorem cl_313 : (mt 313).2.2.1 ≤ 45 := by decide
theorem cz_314 : (mt 314).2.2.2.2 ≠ [] := by decide
theorem cc_314 : Cond.codeWith (mt 314).1 (mt 314).2.1 (mt 314).2.2.1 (mt 314).2.2.2.1 (mt 314).2.2.2.2 ∈ lw_g := mG 1535 (by decide +kernel) rfl
theorem ci_314 : Cond.initialized (mt 314).1.cls ∈ lw_g := w_83
theorem cm_314 : Cond.static (mt 314).1 ∈ lw_g := w_1534
theorem cd_314 : (mt 314).1.cls ≠ "java/lang/invoke/MethodHandle" ∧ (mt 314).1.cls ≠ "java/lang/invoke/VarHandle" ∧ (parseMethodDescriptor (mt 314).1.desc).map (fun d => d.parameters.length) = some 3 := ⟨by decide +kernel, by decide +kernel, by decide +kernel⟩
theorem cl_314 : (mt 314).2.2.1 ≤ 45 := by decide
theorem cz_315 : (mt 315).2.2.2.2 ≠ [] := by decide
theorem cc_315 : Cond.codeWith (mt 315).1 (mt 315).2.1 (mt 315).2.2.1 (mt 315).2.2.2.1 (mt 315).2.2.2.2 ∈ lw_g := mG 1539 (by decide +kernel) rfl
theorem ci_315 : Cond.initialized (mt 315).1.cls ∈ lw_g := w_83
theorem cm_315 : Cond.static (mt 315).1 ∈ lw_g := w_1538
theorem cd_315 : (mt 315).1.cls ≠ "java/lang/invoke/MethodHandle" ∧ (mt 315).1.cls ≠ "java/lang/invoke/VarHandle" ∧ (parseMethodDescriptor (mt 315).1.desc).map (fun d => d.parameters.length) = some 3 := ⟨by decide +kernel, by decide +kernel, by decide +kernel⟩
theorem cl_315 : (mt 315).2.2.1 ≤ 45 := by decide
theorem cz_316 : (mt 316).2.2.2.2 ≠ [] := by decide
theorem cc_316 : Cond.codeWith (mt 316).1 (mt 316).2.1 (mt 316).2.2.1 (mt 316).2.2.2.1 (mt 316).2.2.2.2 ∈ lw_g := mG 1543 (by decide +kernel) rfl
theorem ci_316 : Cond.initialized (mt 316).1.cls ∈ lw_g := w_83
theorem cm_316 : Cond.static (mt 316).1 ∈ lw_g := w_1542
theorem cd_316 : (mt 316).1.cls ≠ "java/lang/invoke/MethodHandle" ∧ (mt 316).1.cls ≠ "java/lang/invoke/VarHandle" ∧ (parseMethodDescriptor (mt 316).1.desc).map (fun d => d.parameters.length) = some 3 := ⟨by decide +kernel, by decide +kernel, by decide +kernel⟩
theorem cl_316 : (mt 316).2.2.1 ≤ 45 := by decide
theorem cz_317 : (mt 317).2.2.2.2 ≠ [] := by decide
theorem cc_317 : Cond.codeWith (mt 317).1 (mt 317).2.1 (mt 317).2.2.1 (mt 317).2.2.2.1 (mt 317).2.2.2.2 ∈ lw_g := mG 1547 (by decide +kernel) rfl
theorem ci_317 : Cond.initialized (mt 317).1.cls ∈ lw_g := w_83
theorem cm_317 : Cond.static (mt 317).1 ∈ lw_g := w_1546
theorem cd_317 : (mt 317).1.cls ≠ "java/lang/invoke/MethodHandle" ∧ (mt 317).1.cls ≠ "java/lang/invoke/VarHandle" ∧ (parseMethodDescriptor (mt 317).1.desc).map (fun d => d.parameters.length) = some 3 := ⟨by decide +kernel, by decide +kernel, by decide +kernel⟩
theorem cl_317 : (mt 317).2.2.1 ≤ 45 := by decide
theorem cz_318 : (mt 318).2.2.2.2 ≠ [] := by decide
theorem cc_318 : Cond.codeWith (mt 318).1 (mt 318).2.1 (mt 318).2.2.1 (mt 318).2.2.2.1 (mt 318).2.2.2.2 ∈ lw_g := mG 1551 (by decide +kernel) rfl
theorem ci_318 : Cond.initialized (mt 318).1.cls ∈ lw_g := w_83
theorem cm_318 : Cond.static (mt 318).1 ∈ lw_g := w_1550
theorem cd_318 : (mt 318).1.cls ≠ "java/lang/invoke/MethodHandle" ∧ (mt 318).1.cls ≠ "java/lang/invoke/VarHandle" ∧ (parseMethodDescriptor (mt 318).1.desc).map (fun d => d.parameters.length) = some 4 := ⟨by decide +kernel, by decide +kernel, by decide +kernel⟩
theorem cl_318 : (mt 318).2.2.1 ≤ 45 := by decide
