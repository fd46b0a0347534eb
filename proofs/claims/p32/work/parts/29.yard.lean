/-! the yard: its cell, its rows of rows; what it draws -/
def Ex (sc : Nat × (Nat → Int32)) (code : Nat → EA) (r : Nat) (f : EF) (h : EH) (P : Option Value → EH → Prop) : Prop := ∃ o h', Rx sc code r f h o h' ∧ P o h'
theorem ex_of {sc : Nat × (Nat → Int32)} {code : Nat → EA} {r : Nat} {f f1 : EF} {h h1 : EH} {P : Option Value → EH → Prop} (hr : ∀ o h', Rx sc code r f1 h1 o h' → Rx sc code r f h o h') (hx : Ex sc code r f1 h1 P) : Ex sc code r f h P := by
  obtain ⟨o, h', hx, hp⟩ := hx
  exact ⟨o, h', hr o h' hx, hp⟩
theorem ex_ri {sc : Nat × (Nat → Int32)} {code : Nat → EA} {r pc : Nat} {lo : List (Nat × Value)} {h : EH} {x : Int32} {P : Option Value → EH → Prop} (hc : code pc = a_iret) (hp : P (some (.int x)) h) : Ex sc code r (pc, lo, [.int x]) h P := ⟨_, _, rx_ri hc, hp⟩
theorem ex_ra {sc : Nat × (Nat → Int32)} {code : Nat → EA} {r pc : Nat} {lo : List (Nat × Value)} {h : EH} {x : Nat} {P : Option Value → EH → Prop} (hc : code pc = a_aret) (hp : P (some (.ref x)) h) : Ex sc code r (pc, lo, [.ref x]) h P := ⟨_, _, rx_ra hc, hp⟩
theorem ex_rv {sc : Nat × (Nat → Int32)} {code : Nat → EA} {r pc : Nat} {lo : List (Nat × Value)} {h : EH} {P : Option Value → EH → Prop} (hc : code pc = a_vret) (hp : P none h) : Ex sc code r (pc, lo, []) h P := ⟨_, _, rx_rv hc, hp⟩
def Oc (b w : Nat) (H : List EC) (a : Nat) (c : EC) : Prop := Out b w a ∧ H[a]? = some c
def Aa (b w : Nat) (H : List EC) (a t L : Nat) (Pr : Nat → Nat → Prop) : Prop := ∃ vs : List Value, Oc b w H a (.inl t, vs) ∧ vs.length = L ∧ ∀ i, i < L → ∃ r, vs[i]? = some (.ref r) ∧ Pr i r
def Row0 (b w : Nat) (H : List EC) (r : Nat) : Prop := ∃ u, Oc b w H r (.inl 0, u)
def Row1 (b w : Nat) (H : List EC) (r : Nat) (x : Int32) : Prop := ∃ u, Oc b w H r (.inl 0, .int x :: u)
def Row2 (b w : Nat) (H : List EC) (r : Nat) (x z : Int32) : Prop := ∃ u, Oc b w H r (.inl 0, .int x :: .int z :: u)
/-- the yard's cell -/
def yc (b : Nat) (dr ob : Int32) (aS aP aD aI : Nat) (rest : List Value) : EC := (.inr 12, .ref b :: .float 0 :: .int dr :: .int ob :: .ref aS :: .ref aP :: .ref aD :: .ref aI :: rest)
/-- arrays but those of kind x are as they were -/
def Xt (x b w : Nat) (H : List EC) (w' : Nat) (H' : List EC) : Prop := ∀ a t vs, t ≠ x → Oc b w H a (.inl t, vs) → Oc b w' H' a (.inl t, vs)
section Y1
variable {sc : Nat × (Nat → Int32)} {b w wl y : Nat} {H H' : List EC} {s : Sg} {kn : Nat × Nat}
theorem oc_lt {a : Nat} {c : EC} (h : Oc b w H a c) : a < H.length := (List.getElem?_eq_some_iff.mp h.2).1
theorem oc_wd {a : Nat} {c : EC} (h : Oc b w H a c) : (wd b w wl H s)[a]? = some c := wd_out h.1 h.2
theorem oc_push {a : Nat} {c d : EC} (h : Oc b w H a c) : Oc b w (H ++ [d]) a c := ⟨h.1, by rw [List.getElem?_append_left (oc_lt h)]; exact h.2⟩
theorem oc_top (hP : WOK b w H) {d : EC} : Oc b w (H ++ [d]) H.length d := by
  obtain ⟨h1, h2, h3⟩ := hP
  refine ⟨⟨Or.inr h1, by omega⟩, ?_⟩
  rw [List.getElem?_append_right (Nat.le_refl _), Nat.sub_self]; rfl
theorem ytop {d e : EC} : (H ++ [d]).set H.length e = H ++ [e] := by
  rw [List.set_append_right _ _ (Nat.le_refl _), Nat.sub_self]; rfl
theorem oc_set {a z : Nat} {c d : EC} (h : Oc b w H a c) (hne : z ≠ a) : Oc b w (H.set z d) a c := ⟨h.1, by rw [List.getElem?_set_ne hne]; exact h.2⟩
theorem oc_self {a : Nat} {c d : EC} (h : Oc b w H a c) : Oc b w (H.set a d) a d := ⟨h.1, List.getElem?_set_self (oc_lt h)⟩
theorem oc_ne {a z t : Nat} {vs : List Value} {d : EC} (h : Oc b w H a (.inl t, vs)) (hz : Oc b w H z d) (hd : ∀ us, d ≠ (.inl t, us)) : z ≠ a := fun e => by
  subst e
  have := h.2.symm.trans hz.2
  exact hd vs (Option.some.inj this).symm
theorem wd_top (hP : WOK b w H) {d e : EC} : (wd b w wl (H ++ [d]) s).set H.length e = wd b w wl (H ++ [e]) s := by
  rw [wd_oset (wok_push hP) (oc_top (d := d) hP).1, ytop]
theorem xt_push {x : Nat} {d : EC} : Xt x b w H w (H ++ [d]) := fun _ _ _ _ h => oc_push h
theorem xt_refl {x : Nat} : Xt x b w H w H := fun _ _ _ _ h => h
theorem xt_trans {x w1 w2 : Nat} {H1 H2 : List EC} (h1 : Xt x b w H w1 H1) (h2 : Xt x b w1 H1 w2 H2) : Xt x b w H w2 H2 := fun a t vs hx h => h2 a t vs hx (h1 a t vs hx h)
theorem xt_obj {x z k : Nat} {fs : List Value} {d : EC} (hz : Oc b w H z (.inr k, fs)) : Xt x b w H w (H.set z d) := fun a t vs _ h => oc_set h (oc_ne h hz (fun us e => by cases e))
theorem xt_arr {z k : Nat} {fs : List Value} {d : EC} (hz : Oc b w H z (.inl k, fs)) : Xt k b w H w (H.set z d) := fun a t vs hx h => oc_set h (oc_ne h hz (fun us e => by injection e with e1 e2; injection e1 with e3; exact hx e3.symm))
theorem aa_mono {a t L : Nat} {P Q : Nat → Nat → Prop} (hx : Aa b w H a t L P) (h1 : ∀ vs, Oc b w H a (.inl t, vs) → Oc b w H' a (.inl t, vs)) (h2 : ∀ i r, P i r → Q i r) : Aa b w H' a t L Q := by
  obtain ⟨vs, h3, h4, h5⟩ := hx
  exact ⟨vs, h1 vs h3, h4, fun i hi => by obtain ⟨r, r1, r2⟩ := h5 i hi; exact ⟨r, r1, h2 i r r2⟩⟩
theorem row0_xt {x w' r : Nat} (hx : x ≠ 0) (h : Xt x b w H w' H') (hr : Row0 b w H r) : Row0 b w' H' r := by
  obtain ⟨u, hu⟩ := hr; exact ⟨u, h _ _ _ (fun e => hx e.symm) hu⟩
theorem row1_xt {x w' r : Nat} {v : Int32} (hx : x ≠ 0) (h : Xt x b w H w' H') (hr : Row1 b w H r v) : Row1 b w' H' r v := by
  obtain ⟨u, hu⟩ := hr; exact ⟨u, h _ _ _ (fun e => hx e.symm) hu⟩
theorem row2_xt {x w' r : Nat} {v z : Int32} (hx : x ≠ 0) (h : Xt x b w H w' H') (hr : Row2 b w H r v z) : Row2 b w' H' r v z := by
  obtain ⟨u, hu⟩ := hr; exact ⟨u, h _ _ _ (fun e => hx e.symm) hu⟩
theorem aa_xt {x w' a t L : Nat} {P Q : Nat → Nat → Prop} (hx : x ≠ t) (h : Xt x b w H w' H') (hA : Aa b w H a t L P) (h2 : ∀ i r, P i r → Q i r) : Aa b w' H' a t L Q := by
  obtain ⟨vs, h3, h4, h5⟩ := hA
  exact ⟨vs, h _ _ _ (fun e => hx e.symm) h3, h4, fun i hi => by obtain ⟨r, r1, r2⟩ := h5 i hi; exact ⟨r, r1, h2 i r r2⟩⟩
theorem oc_link {w' : Nat} (h : ∀ (x : Nat) (c : EC), Out b w x → H[x]? = some c → Out b w' x ∧ H'[x]? = some c) {a : Nat} {c : EC} (hc : Oc b w H a c) : Oc b w' H' a c := h a c hc.1 hc.2
/-! numbers -/
theorem rem_at {x n : Int32} (h0 : 0 ≤ x.toInt) (hn : 0 < n.toInt) : 0 ≤ (x - x / n * n).toInt ∧ (x - x / n * n).toInt < n.toInt := by
  have hx := Int32.toInt_lt x
  have hn1 := Int32.toInt_lt n
  have e1 : (x / n).toInt = x.toInt / n.toInt := by
    rw [Int32.toInt_div, Int.tdiv_eq_ediv_of_nonneg h0]
    have h1 : 0 ≤ x.toInt / n.toInt := Int.ediv_nonneg h0 (by omega)
    have h2 : x.toInt / n.toInt ≤ x.toInt := Int.ediv_le_self _ h0
    rw [Int.bmod_eq_of_le (by omega) (by omega)]
  have h3 := Int.emod_add_mul_ediv x.toInt n.toInt
  have h4 := Int.emod_nonneg x.toInt (show n.toInt ≠ 0 by omega)
  have h5 := Int.emod_lt_of_pos x.toInt hn
  have h6 : x.toInt / n.toInt * n.toInt = n.toInt * (x.toInt / n.toInt) := Int.mul_comm _ _
  have e2 : (x / n * n).toInt = n.toInt * (x.toInt / n.toInt) := by
    rw [Int32.toInt_mul, e1, h6, Int.bmod_eq_of_le (by omega) (by omega)]
  have e3 : (x - x / n * n).toInt = x.toInt % n.toInt := by
    rw [Int32.toInt_sub, e2, Int.bmod_eq_of_le (by omega) (by omega)]; omega
  rw [e3]; omega
theorem mask_at {x : Int32} : 0 ≤ (x &&& 2147483647).toInt := by
  have e : (x &&& 2147483647).toInt = (x &&& 2147483647).toBitVec.toInt := rfl
  have h1 := BitVec.toInt_eq_toNat_cond (x &&& 2147483647).toBitVec
  have h2 : (x &&& 2147483647).toBitVec.toNat ≤ 2147483647 := by
    rw [Int32.toBitVec_and, BitVec.toNat_and]
    exact Nat.and_le_right
  rw [e, h1, if_pos (by omega)]; omega
theorem n_ne {n : Int32} (h : 0 < n.toInt) : ¬ n = 0 := fun e => by rw [e] at h; exact absurd h (by decide)

theorem rc_below {hh : EH} {v n : Int32} (hn : 0 < n.toInt) : ∃ x : Int32, 0 ≤ x.toInt ∧ x.toInt < n.toInt ∧ Rc sc 1 212 [.int v, .int n] hh (some (.int x)) hh := by
  obtain ⟨r0, r1⟩ := rem_at (x := v &&& 2147483647) (n := n) mask_at hn
  have main : Ex sc g_L_below 0 (0, [(0, .int v), (1, .int n)], []) hh (fun o h' => o = some (.int ((v &&& 2147483647) - (v &&& 2147483647) / n * n)) ∧ h' = hh) := by
    refine ex_of (fun _ _ hx => rx_k 4 (5, [(0, .int v), (1, .int n)], [.int n, .int (v &&& 2147483647)]) (fun _ _ => rfl) hx) ?_
    refine ex_of (fun _ _ hx => rx_iiN rfl rfl (n_ne hn) rfl hx) ?_
    exact ex_ri rfl ⟨rfl, rfl⟩
  obtain ⟨o, h', hx, rfl, rfl⟩ := main
  exact ⟨_, r0, r1, rx_mc hx rfl rfl (Nat.ble_eq_true_of_le (Nat.le_refl _)) (Nat.ble_eq_true_of_le (Nat.le_refl _))⟩
theorem rc_cell {hh : EH} {k : Int32} (hL : sc.1 ≤ 260) (h0 : 0 ≤ k.toInt) : ∃ x : Int32, Rc sc 1 213 [.float 0, .int k] hh (some (.int x)) hh := by
  have main : Ex sc (g_L_cell sc) 0 (0, [(0, .float 0), (1, .int k)], []) hh (fun o h' => (∃ x : Int32, o = some (.int x)) ∧ h' = hh) := by
    refine ex_of (fun _ _ hx => rx_k 2 (2, [(0, .float 0), (1, .int k)], [.float 0, .int k]) (fun _ _ => rfl) hx) ?_
    refine ex_of (fun _ _ hx => rx_slen rfl rfl rfl hx) ?_
    by_cases c : Int32.ofNat sc.1 ≤ k
    · refine ex_of (fun _ _ hx => rx_icT rfl (bt c) hx) ?_
      refine ex_of (fun _ _ hx => rx_k 5 (18, [(0, .float 0), (1, .int k)], [.int (790386105 * (k + 3))]) (fun _ _ => rfl) hx) ?_
      exact ex_ri rfl ⟨⟨_, rfl⟩, rfl⟩
    · have hc := i_nle c
      rw [i_wl (by omega)] at hc
      refine ex_of (fun _ _ hx => rx_icF rfl (bf c) rfl hx) ?_
      refine ex_of (fun _ _ hx => rx_k 2 (8, [(0, .float 0), (1, .int k)], [.int k, .float 0]) (fun _ _ => rfl) hx) ?_
      refine ex_of (fun _ _ hx => rx_sld rfl rfl (n_lt h0) (by rw [tn]; omega) rfl hx) ?_
      refine ex_of (fun _ _ hx => rx_k 1 (18, [(0, .float 0), (1, .int k)], [.int (sc.2 k.toNatClampNeg)]) (fun _ _ => rfl) hx) ?_
      exact ex_ri rfl ⟨⟨_, rfl⟩, rfl⟩
  obtain ⟨o, h', hx, ⟨x, rfl⟩, rfl⟩ := main
  exact ⟨x, rx_mc hx rfl rfl (Nat.ble_eq_true_of_le (Nat.le_refl _)) (Nat.ble_eq_true_of_le (Nat.le_refl _))⟩
/-- a draw: one more, anything below n -/
theorem rc_draw (hP : WOK b w H) {dr ob : Int32} {aS aP aD aI : Nat} {rest : List Value} (hy : Oc b w H y (yc b dr ob aS aP aD aI rest)) (hL : sc.1 ≤ 260) (h0 : 0 ≤ dr.toInt) {n : Int32} (hn : 0 < n.toInt) : ∃ v : Int32, 0 ≤ v.toInt ∧ v.toInt < n.toInt ∧ Rc sc 2 200 [.ref y, .int n] (wd b w wl H s, kn) (some (.int v)) (wd b w wl (H.set y (yc b (dr + 1) ob aS aP aD aI rest)) s, kn) := by
  have hc : (wd b w wl H s)[y]? = some (yc b dr ob aS aP aD aI rest) := oc_wd hy
  obtain ⟨k0, k1⟩ := rem_at (x := dr) (n := 24) h0 (by decide)
  obtain ⟨xc, hcell⟩ := rc_cell (sc := sc) (hh := (wd b w wl H s, kn)) hL k0
  obtain ⟨v, v0, v1, hbel⟩ := rc_below (sc := sc) (hh := (wd b w wl H s, kn)) (v := (xc >>> ((dr / 24 - dr / 24 / 8 * 8) &&& 31)) + 229 * dr) hn
  have hset : ((wd b w wl H s).set y (.inr 12, (.ref b :: .float 0 :: .int dr :: .int ob :: .ref aS :: .ref aP :: .ref aD :: .ref aI :: rest).set 2 (.int (dr + 1))), kn) = (wd b w wl (H.set y (yc b (dr + 1) ob aS aP aD aI rest)) s, kn) := congrArg (fun z => (z, kn)) (wd_oset hP hy.1)
  have main : Ex sc g_X12_draw 1 (0, [(0, .ref y), (1, .int n)], []) (wd b w wl H s, kn) (fun o h' => o = some (.int v) ∧ h' = (wd b w wl (H.set y (yc b (dr + 1) ob aS aP aD aI rest)) s, kn)) := by
    refine ex_of (fun _ _ hx => rx_k 1 (1, [(0, .ref y), (1, .int n)], [.ref y]) (fun _ _ => rfl) hx) ?_
    refine ex_of (fun _ _ hx => rx_getf rfl rfl hc rfl hx) ?_
    refine ex_of (fun _ _ hx => rx_k 1 (5, [(0, .ref y), (1, .int n)], [.ref y, .float 0]) (fun _ _ => rfl) hx) ?_
    refine ex_of (fun _ _ hx => rx_getf rfl rfl hc rfl hx) ?_
    refine ex_of (fun _ _ hx => rx_k 1 (10, [(0, .ref y), (1, .int n)], [.int 24, .int dr, .float 0]) (fun _ _ => rfl) hx) ?_
    refine ex_of (fun _ _ hx => rx_iiN rfl rfl (by decide) rfl hx) ?_
    refine ex_of (fun _ _ hx => rx_inv rfl rfl hcell rfl rfl rfl rfl rfl rfl hx) ?_
    refine ex_of (fun _ _ hx => rx_k 1 (15, [(0, .ref y), (1, .int n)], [.ref y, .int xc]) (fun _ _ => rfl) hx) ?_
    refine ex_of (fun _ _ hx => rx_getf rfl rfl hc rfl hx) ?_
    refine ex_of (fun _ _ hx => rx_k 1 (20, [(0, .ref y), (1, .int n)], [.int 24, .int dr, .int xc]) (fun _ _ => rfl) hx) ?_
    refine ex_of (fun _ _ hx => rx_iiN rfl rfl (by decide) rfl hx) ?_
    refine ex_of (fun _ _ hx => rx_k 1 (23, [(0, .ref y), (1, .int n)], [.int 8, .int (dr / 24), .int xc]) (fun _ _ => rfl) hx) ?_
    refine ex_of (fun _ _ hx => rx_iiN rfl rfl (by decide) rfl hx) ?_
    refine ex_of (fun _ _ hx => rx_k 3 (29, [(0, .ref y), (1, .int n)], [.ref y, .int 229, .int (xc >>> ((dr / 24 - dr / 24 / 8 * 8) &&& 31))]) (fun _ _ => rfl) hx) ?_
    refine ex_of (fun _ _ hx => rx_getf rfl rfl hc rfl hx) ?_
    refine ex_of (fun _ _ hx => rx_k 3 (35, [(0, .ref y), (1, .int n)], [.int n, .int ((xc >>> ((dr / 24 - dr / 24 / 8 * 8) &&& 31)) + (229 * dr))]) (fun _ _ => rfl) hx) ?_
    refine ex_of (fun _ _ hx => rx_inv rfl rfl hbel rfl rfl rfl rfl rfl rfl hx) ?_
    refine ex_of (fun _ _ hx => rx_k 3 (41, [(2, .int v), (0, .ref y), (1, .int n)], [.ref y, .ref y]) (fun _ _ => rfl) hx) ?_
    refine ex_of (fun _ _ hx => rx_getf rfl rfl hc rfl hx) ?_
    refine ex_of (fun _ _ hx => rx_k 2 (46, [(2, .int v), (0, .ref y), (1, .int n)], [.int (dr + 1), .ref y]) (fun _ _ => rfl) hx) ?_
    refine ex_of (fun _ _ hx => rx_putf rfl rfl hc (by show (true && decide (2 < rest.length + 8)) = true; rw [decide_eq_true (by omega)]; rfl) hset hx) ?_
    refine ex_of (fun _ _ hx => rx_k 1 (50, [(2, .int v), (0, .ref y), (1, .int n)], [.int v]) (fun _ _ => rfl) hx) ?_
    exact ex_ri rfl ⟨rfl, rfl⟩
  obtain ⟨o, h', hx, rfl, rfl⟩ := main
  exact ⟨v, v0, v1, rx_mc hx rfl rfl (Nat.ble_eq_true_of_le (Nat.le_refl _)) (Nat.ble_eq_true_of_le (Nat.le_refl _))⟩
theorem rc_with (hP : WOK b w H) {a r : Nat} {vs us : List Value} (ha : Oc b w H a (.inl 3, vs)) (hl : vs.length ≤ 1000) (he : ∀ v ∈ vs, ∃ r us, v = .ref r ∧ Oc b w H r (.inl 0, us)) (hr : Oc b w H r (.inl 0, us)) : Rc sc 1 201 [.ref a, .ref r] (wd b w wl H s, kn) (some (.ref H.length)) (wd b w wl (H ++ [(.inl 3, vs ++ [.ref r])]) s, kn.1 + 1, kn.2 + (vs.length + 1)) := by
  have hz : (Int32.ofNat vs.length).toInt = vs.length := i_wl (by omega)
  have h1 : (Int32.ofNat vs.length + 1).toInt = vs.length + 1 := by rw [i_add1 (by omega), hz]
  have hN : (Int32.ofNat vs.length + 1).toNatClampNeg = vs.length + 1 := by rw [tn, h1]; omega
  have hN0 : (Int32.ofNat vs.length).toNatClampNeg = vs.length := by rw [tn, hz]; omega
  have hP2 := wok_push (c := ((.inl 3, List.replicate (vs.length + 1) .null) : EC)) hP
  have hP3 := wok_push (c := ((.inl 3, vs ++ [.null]) : EC)) hP
  have hr2 : List.replicate (vs.length + 1) Value.null = List.replicate vs.length .null ++ [.null] := List.replicate_succ'
  have hel : ((vs.take (Int32.ofNat vs.length).toNatClampNeg).all (ev_el (wd b w wl (H ++ [(.inl 3, List.replicate (vs.length + 1) .null)]) s) 3)) = true := by
    rw [hN0, List.take_length]
    refine List.all_eq_true.mpr (fun v hv => ?_)
    obtain ⟨q, us', rfl, hq⟩ := he v hv
    show (match (wd b w wl (H ++ [(.inl 3, List.replicate (vs.length + 1) .null)]) s)[q]? with | some (.inl tv, _) => ev_isc 3 tv | _ => false) = true
    rw [oc_wd (oc_push hq)]; rfl
  have hcp : (wd b w wl (H ++ [(.inl 3, List.replicate (vs.length + 1) .null)]) s).set H.length (.inl 3, vs.take (Int32.ofNat vs.length).toNatClampNeg ++ (List.replicate (vs.length + 1) Value.null).drop (Int32.ofNat vs.length).toNatClampNeg) = wd b w wl (H ++ [(.inl 3, vs ++ [.null])]) s := by
    rw [hN0, List.take_length, hr2, List.drop_left' (by rw [List.length_replicate])]
    exact wd_top hP
  have hst : (wd b w wl (H ++ [(.inl 3, vs ++ [.null])]) s).set H.length (.inl 3, (vs ++ [Value.null]).set (Int32.ofNat vs.length).toNatClampNeg (.ref r)) = wd b w wl (H ++ [(.inl 3, vs ++ [.ref r])]) s := by
    rw [hN0, List.set_append_right _ _ (Nat.le_refl _), Nat.sub_self]
    exact wd_top hP
  have main : Ex sc g_X12_with 0 (0, [(0, .ref a), (1, .ref r)], []) (wd b w wl H s, kn) (fun o h' => o = some (.ref H.length) ∧ h' = (wd b w wl (H ++ [(.inl 3, vs ++ [.ref r])]) s, kn.1 + 1, kn.2 + (vs.length + 1))) := by
    refine ex_of (fun _ _ hx => rx_k 1 (1, [(0, .ref a), (1, .ref r)], [.ref a]) (fun _ _ => rfl) hx) ?_
    refine ex_of (fun _ _ hx => rx_alen rfl rfl (oc_wd ha) rfl rfl hx) ?_
    refine ex_of (fun _ _ hx => rx_k 2 (4, [(0, .ref a), (1, .ref r)], [.int ((Int32.ofNat vs.length) + 1)]) (fun _ _ => rfl) hx) ?_
    refine ex_of (fun _ _ hx => rx_newq (a := H.length) (h1 := (wd b w wl (H ++ [(.inl 3, List.replicate (vs.length + 1) .null)]) s, kn.1 + 1, kn.2 + (vs.length + 1))) rfl rfl (n_lt (by omega)) (Nat.ble_eq_true_of_le (by rw [hN]; omega)) (by rw [hN]; exact congrArg (fun z => (z, kn.1 + 1, kn.2 + (vs.length + 1))) (wd_push hP)) wd_len hx) ?_
    refine ex_of (fun _ _ hx => rx_k 6 (13, [(2, .ref H.length), (0, .ref a), (1, .ref r)], [.ref a, .int 0, .ref H.length, .int 0, .ref a]) (fun _ _ => rfl) hx) ?_
    refine ex_of (fun _ _ hx => rx_alen rfl rfl (oc_wd (oc_push ha)) rfl rfl hx) ?_
    refine ex_of (fun _ _ hx => rx_cpq (h1 := (wd b w wl (H ++ [(.inl 3, vs ++ [.null])]) s, kn.1 + 1, kn.2 + (vs.length + 1))) rfl rfl (oc_wd (oc_push ha)) (oc_wd (oc_top hP)) rfl (Int32.le_iff_toInt_le.mpr (by rw [show (0 : Int32).toInt = 0 from rfl]; omega)) (by rw [hN0]; exact Nat.le_refl _) (by rw [hN0, List.length_replicate]; omega) hel rfl (congrArg (fun z => (z, kn.1 + 1, kn.2 + (vs.length + 1))) hcp) hx) ?_
    refine ex_of (fun _ _ hx => rx_k 2 (19, [(2, .ref H.length), (0, .ref a), (1, .ref r)], [.ref a, .ref H.length]) (fun _ _ => rfl) hx) ?_
    refine ex_of (fun _ _ hx => rx_alen rfl rfl (oc_wd (oc_push ha)) rfl rfl hx) ?_
    refine ex_of (fun _ _ hx => rx_k 1 (21, [(2, .ref H.length), (0, .ref a), (1, .ref r)], [.ref r, .int (Int32.ofNat vs.length), .ref H.length]) (fun _ _ => rfl) hx) ?_
    refine ex_of (fun _ _ hx => rx_ast (tv := 0) (vv := us) (h1 := (wd b w wl (H ++ [(.inl 3, vs ++ [.ref r])]) s, kn.1 + 1, kn.2 + (vs.length + 1))) rfl rfl (oc_wd (oc_top hP)) (oc_wd (oc_push hr)) rfl (ev_at_of (v := .null) (n_lt (by omega)) hN0 (by rw [List.getElem?_append_right (Nat.le_refl _), Nat.sub_self]; rfl)) (congrArg (fun z => (z, kn.1 + 1, kn.2 + (vs.length + 1))) hst) hx) ?_
    refine ex_of (fun _ _ hx => rx_k 1 (23, [(2, .ref H.length), (0, .ref a), (1, .ref r)], [.ref H.length]) (fun _ _ => rfl) hx) ?_
    exact ex_ra rfl ⟨rfl, rfl⟩
  obtain ⟨o, h', hx, rfl, rfl⟩ := main
  exact rx_mc hx rfl rfl (Nat.ble_eq_true_of_le (Nat.le_add_right _ _)) (Nat.ble_eq_true_of_le (Nat.le_add_right _ _))
theorem rc_plus (hP : WOK b w H) {a r : Nat} {vs us : List Value} (ha : Oc b w H a (.inl 4, vs)) (hl : vs.length ≤ 1000) (he : ∀ v ∈ vs, ∃ r us, v = .ref r ∧ Oc b w H r (.inl 3, us)) (hr : Oc b w H r (.inl 3, us)) : Rc sc 1 202 [.ref a, .ref r] (wd b w wl H s, kn) (some (.ref H.length)) (wd b w wl (H ++ [(.inl 4, vs ++ [.ref r])]) s, kn.1 + 1, kn.2 + (vs.length + 1)) := by
  have hz : (Int32.ofNat vs.length).toInt = vs.length := i_wl (by omega)
  have h1 : (Int32.ofNat vs.length + 1).toInt = vs.length + 1 := by rw [i_add1 (by omega), hz]
  have hN : (Int32.ofNat vs.length + 1).toNatClampNeg = vs.length + 1 := by rw [tn, h1]; omega
  have hN0 : (Int32.ofNat vs.length).toNatClampNeg = vs.length := by rw [tn, hz]; omega
  have hP2 := wok_push (c := ((.inl 4, List.replicate (vs.length + 1) .null) : EC)) hP
  have hP3 := wok_push (c := ((.inl 4, vs ++ [.null]) : EC)) hP
  have hr2 : List.replicate (vs.length + 1) Value.null = List.replicate vs.length .null ++ [.null] := List.replicate_succ'
  have hel : ((vs.take (Int32.ofNat vs.length).toNatClampNeg).all (ev_el (wd b w wl (H ++ [(.inl 4, List.replicate (vs.length + 1) .null)]) s) 4)) = true := by
    rw [hN0, List.take_length]
    refine List.all_eq_true.mpr (fun v hv => ?_)
    obtain ⟨q, us', rfl, hq⟩ := he v hv
    show (match (wd b w wl (H ++ [(.inl 4, List.replicate (vs.length + 1) .null)]) s)[q]? with | some (.inl tv, _) => ev_isc 4 tv | _ => false) = true
    rw [oc_wd (oc_push hq)]; rfl
  have hcp : (wd b w wl (H ++ [(.inl 4, List.replicate (vs.length + 1) .null)]) s).set H.length (.inl 4, vs.take (Int32.ofNat vs.length).toNatClampNeg ++ (List.replicate (vs.length + 1) Value.null).drop (Int32.ofNat vs.length).toNatClampNeg) = wd b w wl (H ++ [(.inl 4, vs ++ [.null])]) s := by
    rw [hN0, List.take_length, hr2, List.drop_left' (by rw [List.length_replicate])]
    exact wd_top hP
  have hst : (wd b w wl (H ++ [(.inl 4, vs ++ [.null])]) s).set H.length (.inl 4, (vs ++ [Value.null]).set (Int32.ofNat vs.length).toNatClampNeg (.ref r)) = wd b w wl (H ++ [(.inl 4, vs ++ [.ref r])]) s := by
    rw [hN0, List.set_append_right _ _ (Nat.le_refl _), Nat.sub_self]
    exact wd_top hP
  have main : Ex sc g_X12_plus 0 (0, [(0, .ref a), (1, .ref r)], []) (wd b w wl H s, kn) (fun o h' => o = some (.ref H.length) ∧ h' = (wd b w wl (H ++ [(.inl 4, vs ++ [.ref r])]) s, kn.1 + 1, kn.2 + (vs.length + 1))) := by
    refine ex_of (fun _ _ hx => rx_k 1 (1, [(0, .ref a), (1, .ref r)], [.ref a]) (fun _ _ => rfl) hx) ?_
    refine ex_of (fun _ _ hx => rx_alen rfl rfl (oc_wd ha) rfl rfl hx) ?_
    refine ex_of (fun _ _ hx => rx_k 2 (4, [(0, .ref a), (1, .ref r)], [.int ((Int32.ofNat vs.length) + 1)]) (fun _ _ => rfl) hx) ?_
    refine ex_of (fun _ _ hx => rx_newq (a := H.length) (h1 := (wd b w wl (H ++ [(.inl 4, List.replicate (vs.length + 1) .null)]) s, kn.1 + 1, kn.2 + (vs.length + 1))) rfl rfl (n_lt (by omega)) (Nat.ble_eq_true_of_le (by rw [hN]; omega)) (by rw [hN]; exact congrArg (fun z => (z, kn.1 + 1, kn.2 + (vs.length + 1))) (wd_push hP)) wd_len hx) ?_
    refine ex_of (fun _ _ hx => rx_k 6 (13, [(2, .ref H.length), (0, .ref a), (1, .ref r)], [.ref a, .int 0, .ref H.length, .int 0, .ref a]) (fun _ _ => rfl) hx) ?_
    refine ex_of (fun _ _ hx => rx_alen rfl rfl (oc_wd (oc_push ha)) rfl rfl hx) ?_
    refine ex_of (fun _ _ hx => rx_cpq (h1 := (wd b w wl (H ++ [(.inl 4, vs ++ [.null])]) s, kn.1 + 1, kn.2 + (vs.length + 1))) rfl rfl (oc_wd (oc_push ha)) (oc_wd (oc_top hP)) rfl (Int32.le_iff_toInt_le.mpr (by rw [show (0 : Int32).toInt = 0 from rfl]; omega)) (by rw [hN0]; exact Nat.le_refl _) (by rw [hN0, List.length_replicate]; omega) hel rfl (congrArg (fun z => (z, kn.1 + 1, kn.2 + (vs.length + 1))) hcp) hx) ?_
    refine ex_of (fun _ _ hx => rx_k 2 (19, [(2, .ref H.length), (0, .ref a), (1, .ref r)], [.ref a, .ref H.length]) (fun _ _ => rfl) hx) ?_
    refine ex_of (fun _ _ hx => rx_alen rfl rfl (oc_wd (oc_push ha)) rfl rfl hx) ?_
    refine ex_of (fun _ _ hx => rx_k 1 (21, [(2, .ref H.length), (0, .ref a), (1, .ref r)], [.ref r, .int (Int32.ofNat vs.length), .ref H.length]) (fun _ _ => rfl) hx) ?_
    refine ex_of (fun _ _ hx => rx_ast (tv := 3) (vv := us) (h1 := (wd b w wl (H ++ [(.inl 4, vs ++ [.ref r])]) s, kn.1 + 1, kn.2 + (vs.length + 1))) rfl rfl (oc_wd (oc_top hP)) (oc_wd (oc_push hr)) rfl (ev_at_of (v := .null) (n_lt (by omega)) hN0 (by rw [List.getElem?_append_right (Nat.le_refl _), Nat.sub_self]; rfl)) (congrArg (fun z => (z, kn.1 + 1, kn.2 + (vs.length + 1))) hst) hx) ?_
    refine ex_of (fun _ _ hx => rx_k 1 (23, [(2, .ref H.length), (0, .ref a), (1, .ref r)], [.ref H.length]) (fun _ _ => rfl) hx) ?_
    exact ex_ra rfl ⟨rfl, rfl⟩
  obtain ⟨o, h', hx, rfl, rfl⟩ := main
  exact rx_mc hx rfl rfl (Nat.ble_eq_true_of_le (Nat.le_add_right _ _)) (Nat.ble_eq_true_of_le (Nat.le_add_right _ _))
end Y1
