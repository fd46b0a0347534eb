/-! a definition more -/
section Y6
variable {sc : Nat × (Nat → Int32)} {b w wl y : Nat} {H : List EC} {s : Sg} {k1 k2 m e : Nat} {c : Int}
theorem y_define (hL : sc.1 ≤ 260) (hm : m ≤ 100000) (he : e ≤ 40) (h : Yb b y w wl H s k1 k2 m c e 5 5) : ∃ (H' : List EC) (s' : Sg) (j1 j2 : Nat), Rc sc 5 206 [.ref y] (wd b w wl H s, k1, k2) (some (.int 1)) (wd b w wl H' s', j1, j2) ∧ Yb b y w wl H' s' j1 j2 (m + 12) c (e + 1) 5 5 ∧ k1 ≤ j1 ∧ k2 ≤ j2 ∧ (∀ i j, 23 ≤ i → s' i j = s i j) := by
  obtain ⟨dr, aS, aP, aD, aI, rest, nd, dO, dN, hy, h0, h1, hnd, hDC, hA⟩ := h.ya
  have hP := h.ok
  have ti := h.ti
  have b1 := h.b1; have b2 := h.b2; have ns0 := ti.ns0; have ns1 := ti.ns1
  have main : Ex sc g_X12_define 4 (0, [(0, .ref y)], []) (wd b w wl H s, k1, k2) (fun o h' => o = some (.int 1) ∧ ∃ (H' : List EC) (s' : Sg) (j1 j2 : Nat), h' = (wd b w wl H' s', j1, j2) ∧ Yb b y w wl H' s' j1 j2 (m + 12) c (e + 1) 5 5 ∧ k1 ≤ j1 ∧ k2 ≤ j2 ∧ (∀ i j, 23 ≤ i → s' i j = s i j)) := by
    refine ex_of (fun _ _ hx => rx_k 2 (3, [(0, .ref y)], [.int 8, .ref y]) (fun _ _ => rfl) hx) ?_
    obtain ⟨nm, G1, d1, nm0, nm1, hd1, hP1, hy1, ed1, hA1, hx1⟩ := yd (sc := sc) (wl := wl) (s := s) (k1 := k1) (k2 := k2) hL hP hy hA (by omega) (by omega) (n := 8) (by decide)
    have nm1 : nm.toInt < 8 := nm1
    refine ex_of (fun _ _ hx => rx_inv rfl rfl hd1 rfl rfl rfl (q_recv (oc_wd hy)) rfl rfl hx) ?_
    refine ex_of (fun _ _ hx => rx_k 3 (9, [(1, .int nm), (0, .ref y)], [.int 4, .ref y]) (fun _ _ => rfl) hx) ?_
    obtain ⟨md, G2, d2, md0, md1, hd2, hP2, hy2, ed2, hA2, hx2⟩ := yd (sc := sc) (wl := wl) (s := s) (k1 := k1) (k2 := k2) hL hP1 hy1 hA1 (by omega) (by omega) (n := 4) (by decide)
    have md1 : md.toInt < 4 := md1
    refine ex_of (fun _ _ hx => rx_inv rfl rfl hd2 rfl rfl rfl (q_recv (oc_wd hy1)) rfl rfl hx) ?_
    by_cases c0 : md = 0
    · skip
      refine ex_of (fun _ _ hx => rx_ifF rfl (nf c0) rfl hx) ?_
      refine ex_of (fun _ _ hx => rx_k 2 (17, [(1, .int nm), (0, .ref y)], [.ref y, .ref y]) (fun _ _ => rfl) hx) ?_
      refine ex_of (fun _ _ hx => rx_getf rfl rfl (oc_wd hy2) rfl hx) ?_
      obtain ⟨o, G3, d3, o0, o1, hd3, hP3, hy3, ed3, hA3, hx3⟩ := yd (sc := sc) (wl := wl) (s := s) (k1 := k1) (k2 := k2) hL hP2 hy2 hA2 (by omega) (by omega) (n := 5) (by decide)
      have o1 : o.toInt < 5 := o1
      refine ex_of (fun _ _ hx => rx_inv rfl rfl hd3 rfl rfl rfl (q_recv (oc_wd hy2)) rfl rfl hx) ?_
      refine ex_of (fun _ _ hx => rx_k 4 (28, [(2, .int o), (1, .int nm), (0, .ref y)], [.int 9, .ref y, .int 1]) (fun _ _ => rfl) hx) ?_
      obtain ⟨mw, G4, d4, mw0, mw1, hd4, hP4, hy4, ed4, hA4, hx4⟩ := yd (sc := sc) (wl := wl) (s := s) (k1 := k1) (k2 := k2) hL hP3 hy3 hA3 (by omega) (by omega) (n := 9) (by decide)
      have mw1 : mw.toInt < 9 := mw1
      refine ex_of (fun _ _ hx => rx_inv rfl rfl hd4 rfl rfl rfl (q_recv (oc_wd hy3)) rfl rfl hx) ?_
      refine ex_of (fun _ _ hx => rx_k 5 (36, [(3, .int (1 + mw)), (2, .int o), (1, .int nm), (0, .ref y)], [.int 4, .ref y, .int 1]) (fun _ _ => rfl) hx) ?_
      obtain ⟨al, G5, d5, al0, al1, hd5, hP5, hy5, ed5, hA5, hx5⟩ := yd (sc := sc) (wl := wl) (s := s) (k1 := k1) (k2 := k2) hL hP4 hy4 hA4 (by omega) (by omega) (n := 4) (by decide)
      have al1 : al.toInt < 4 := al1
      refine ex_of (fun _ _ hx => rx_inv rfl rfl hd5 rfl rfl rfl (q_recv (oc_wd hy4)) rfl rfl hx) ?_
      refine ex_of (fun _ _ hx => rx_k 5 (45, [(4, .int (1 <<< (al &&& 31))), (3, .int (1 + mw)), (2, .int o), (1, .int nm), (0, .ref y)], [.int nm, .int o, .ref y]) (fun _ _ => rfl) hx) ?_
      obtain ⟨vv, hv, vn, vp⟩ := rc_dof (sc := sc) (wl := wl) (s := s) (k1 := k1) (k2 := k2) hP5 hy5 (nd := nd) (by omega) hA5.2.2.1 (o := o) (n := nm)
      refine ex_of (fun _ _ hx => rx_inv rfl rfl hv rfl rfl rfl (q_recv (oc_wd hy5)) rfl rfl hx) ?_
      by_cases cv : vv < 0
      · have hno := vn cv
        have hbit : bt_ (s 2 o.toNatClampNeg) nm.toNatClampNeg = false := by
          cases hq : bt_ (s 2 o.toNatClampNeg) nm.toNatClampNeg with
          | false => rfl
          | true =>
            obtain ⟨i, i1, i2, i3⟩ := (hDC.2.1 o.toNatClampNeg nm.toNatClampNeg (by rw [tn]; omega) (by rw [tn]; omega)).mp hq
            exact absurd ⟨Int32.toInt_inj.mp (by rw [i2, tn]; omega), Int32.toInt_inj.mp (by rw [i3, tn]; omega)⟩ (hno i i1)
        have ho2 : o.toInt < (s 1 9).toInt := by have := h.o5; omega
        have emw : (1 + mw).toInt = 1 + mw.toInt := by rw [Int32.toInt_add, show (1 : Int32).toInt = 1 from rfl, Int.bmod_eq_of_le (by omega) (by omega)]
        obtain ⟨tT, t, tD, tI, tf, t2, _, _⟩ := t_common ti (m := 1 + mw) (al := (1 : Int32) <<< (al &&& 31)) o0 ho2 nm0 nm1 (by omega) (by omega) (shl_4 al0 al1) hbit
        obtain ⟨hDC2, htot⟩ := dc_add hDC o0 o1 nm0 nm1 hbit t2
        refine ex_of (fun _ _ hx => rx_ifT rfl (bt cv) hx) ?_
        refine ex_of (fun _ _ hx => rx_k 2 (55, [(4, .int (1 <<< (al &&& 31))), (3, .int (1 + mw)), (2, .int o), (1, .int nm), (0, .ref y)], [.ref y, .ref y]) (fun _ _ => rfl) hx) ?_
        refine ex_of (fun _ _ hx => rx_getf rfl rfl (oc_wd hy5) rfl hx) ?_
        refine ex_of (fun _ _ hx => rx_k 1 (60, [(4, .int (1 <<< (al &&& 31))), (3, .int (1 + mw)), (2, .int o), (1, .int nm), (0, .ref y)], [.int 6, .ref aD, .ref y]) (fun _ _ => rfl) hx) ?_
        refine ex_of (fun _ _ hx => rx_newa (a := G5.length) (h1 := (wd b w wl (G5 ++ [(.inl 0, [.int 0, .int 0, .int 0, .int 0, .int 0, .int 0])]) s, (k1 + 1), (k2 + 6))) rfl rfl (by decide) rfl (congrArg (fun z => (z, (k1 + 1), (k2 + 6))) (wd_push hP5)) wd_len hx) ?_
        refine ex_of (fun _ _ hx => rx_k 3 (65, [(4, .int (1 <<< (al &&& 31))), (3, .int (1 + mw)), (2, .int o), (1, .int nm), (0, .ref y)], [.int o, .int 0, .ref G5.length, .ref G5.length, .ref aD, .ref y]) (fun _ _ => rfl) hx) ?_
        refine ex_of (fun _ _ hx => rx_ist (h1 := (wd b w wl (G5 ++ [(.inl 0, [.int o, .int 0, .int 0, .int 0, .int 0, .int 0])]) s, (k1 + 1), (k2 + 6))) rfl rfl (oc_wd (oc_top hP5)) rfl rfl (congrArg (fun z => (z, (k1 + 1), (k2 + 6))) (wd_top hP5)) hx) ?_
        refine ex_of (fun _ _ hx => rx_k 3 (69, [(4, .int (1 <<< (al &&& 31))), (3, .int (1 + mw)), (2, .int o), (1, .int nm), (0, .ref y)], [.int nm, .int 1, .ref G5.length, .ref G5.length, .ref aD, .ref y]) (fun _ _ => rfl) hx) ?_
        refine ex_of (fun _ _ hx => rx_ist (h1 := (wd b w wl (G5 ++ [(.inl 0, [.int o, .int nm, .int 0, .int 0, .int 0, .int 0])]) s, (k1 + 1), (k2 + 6))) rfl rfl (oc_wd (oc_top hP5)) rfl rfl (congrArg (fun z => (z, (k1 + 1), (k2 + 6))) (wd_top hP5)) hx) ?_
        refine ex_of (fun _ _ hx => rx_k 3 (73, [(4, .int (1 <<< (al &&& 31))), (3, .int (1 + mw)), (2, .int o), (1, .int nm), (0, .ref y)], [.int 3, .int 2, .ref G5.length, .ref G5.length, .ref aD, .ref y]) (fun _ _ => rfl) hx) ?_
        refine ex_of (fun _ _ hx => rx_ist (h1 := (wd b w wl (G5 ++ [(.inl 0, [.int o, .int nm, .int 3, .int 0, .int 0, .int 0])]) s, (k1 + 1), (k2 + 6))) rfl rfl (oc_wd (oc_top hP5)) rfl rfl (congrArg (fun z => (z, (k1 + 1), (k2 + 6))) (wd_top hP5)) hx) ?_
        refine ex_of (fun _ _ hx => rx_k 3 (77, [(4, .int (1 <<< (al &&& 31))), (3, .int (1 + mw)), (2, .int o), (1, .int nm), (0, .ref y)], [.int (1 + mw), .int 3, .ref G5.length, .ref G5.length, .ref aD, .ref y]) (fun _ _ => rfl) hx) ?_
        refine ex_of (fun _ _ hx => rx_ist (h1 := (wd b w wl (G5 ++ [(.inl 0, [.int o, .int nm, .int 3, .int (1 + mw), .int 0, .int 0])]) s, (k1 + 1), (k2 + 6))) rfl rfl (oc_wd (oc_top hP5)) rfl rfl (congrArg (fun z => (z, (k1 + 1), (k2 + 6))) (wd_top hP5)) hx) ?_
        refine ex_of (fun _ _ hx => rx_k 3 (82, [(4, .int (1 <<< (al &&& 31))), (3, .int (1 + mw)), (2, .int o), (1, .int nm), (0, .ref y)], [.int (1 <<< (al &&& 31)), .int 4, .ref G5.length, .ref G5.length, .ref aD, .ref y]) (fun _ _ => rfl) hx) ?_
        refine ex_of (fun _ _ hx => rx_ist (h1 := (wd b w wl (G5 ++ [(.inl 0, [.int o, .int nm, .int 3, .int (1 + mw), .int (1 <<< (al &&& 31)), .int 0])]) s, (k1 + 1), (k2 + 6))) rfl rfl (oc_wd (oc_top hP5)) rfl rfl (congrArg (fun z => (z, (k1 + 1), (k2 + 6))) (wd_top hP5)) hx) ?_
        refine ex_of (fun _ _ hx => rx_k 3 (86, [(4, .int (1 <<< (al &&& 31))), (3, .int (1 + mw)), (2, .int o), (1, .int nm), (0, .ref y)], [.int 0, .int 5, .ref G5.length, .ref G5.length, .ref aD, .ref y]) (fun _ _ => rfl) hx) ?_
        refine ex_of (fun _ _ hx => rx_ist (h1 := (wd b w wl (G5 ++ [(.inl 0, [.int o, .int nm, .int 3, .int (1 + mw), .int (1 <<< (al &&& 31)), .int 0])]) s, (k1 + 1), (k2 + 6))) rfl rfl (oc_wd (oc_top hP5)) rfl rfl (congrArg (fun z => (z, (k1 + 1), (k2 + 6))) (wd_top hP5)) hx) ?_
        have hr7 : Oc b w (G5 ++ [(.inl 0, [.int o, .int nm, .int 3, .int (1 + mw), .int (1 <<< (al &&& 31)), .int 0])]) G5.length (.inl 0, [.int o, .int nm, .int 3, .int (1 + mw), .int (1 <<< (al &&& 31)), .int 0]) := oc_top hP5
        have hP7 := wok_push (c := ((.inl 0, [.int o, .int nm, .int 3, .int (1 + mw), .int (1 <<< (al &&& 31)), .int 0]) : EC)) hP5
        have hy7 := oc_push (d := ((.inl 0, [.int o, .int nm, .int 3, .int (1 + mw), .int (1 <<< (al &&& 31)), .int 0]) : EC)) hy5
        have hA7 := ya_xt (xt_push (x := 9) (d := ((.inl 0, [.int o, .int nm, .int 3, .int (1 + mw), .int (1 <<< (al &&& 31)), .int 0]) : EC))) hA5
        generalize G5 ++ [(.inl 0, [.int o, .int nm, .int 3, .int (1 + mw), .int (1 <<< (al &&& 31)), .int 0])] = G7 at *
        obtain ⟨G8, j8, q8, hw8, ej8, ek8, el8, hP8, hx8, hoc8, hN8⟩ := yw (sc := sc) (wl := wl) (s := s) (k1 := (k1 + 1)) (k2 := (k2 + 6)) (Or.inl ⟨rfl, rfl, rfl⟩) hP7 hA7.2.2.1 (by omega) (fun i z q => by obtain ⟨u, hu⟩ := q; exact ⟨_, hu⟩) hr7
        refine ex_of (fun _ _ hx => rx_inv rfl rfl hw8 rfl rfl rfl rfl rfl rfl hx) ?_
        have hy8 := hoc8 _ _ hy7
        have hA8 := ya_xt hx8 hA7
        have hrr8 := hoc8 _ _ hr7
        have hD8 : Aa b w G8 G7.length 3 (nd + 1) (fun a z => Row2 b w G8 z (if a = nd then o else dO a) (if a = nd then nm else dN a)) := aa_cg hN8 rfl (fun a z _ q => by
          rcases q with ⟨q1, q2⟩ | ⟨q1, q2⟩
          · rw [if_neg (by omega), if_neg (by omega)]; exact row2_xt (by decide) hx8 q2
          · rw [if_pos q1, if_pos q1]; exact ⟨_, q2 ▸ hrr8⟩)
        generalize G7.length = aN at *
        have hset9 : ((wd b w wl G8 s).set y (.inr 12, (.ref b :: .float 0 :: .int d5 :: .int 5 :: .ref aS :: .ref aP :: .ref aD :: .ref aI :: rest).set 6 (.ref aN)), j8, q8) = (wd b w wl (G8.set y (yc b d5 5 aS aP aN aI rest)) s, j8, q8) := congrArg (fun z => (z, j8, q8)) (wd_oset hP8 hy8.1)
        refine ex_of (fun _ _ hx => rx_putf rfl rfl (oc_wd hy8) (by show (true && decide (6 < rest.length + 8)) = true; rw [decide_eq_true (by omega)]; rfl) hset9 hx) ?_
        have hxy9 : Xt 9 b w G8 w (G8.set y (yc b d5 5 aS aP aN aI rest)) := xt_obj (k := 12) hy8
        have hy9 : Oc b w (G8.set y (yc b d5 5 aS aP aN aI rest)) y (yc b d5 5 aS aP aN aI rest) := oc_self hy8
        have hP9 := wok_set (a := y) (c := yc b d5 5 aS aP aN aI rest) hP8
        have hA9' := ya_xt hxy9 hA8
        have hD9 := aa_xt (Q := fun a z => Row2 b w (G8.set y (yc b d5 5 aS aP aN aI rest)) z (if a = nd then o else dO a) (if a = nd then nm else dN a)) (by decide) hxy9 hD8 (fun a z q => row2_xt (by decide) hxy9 q)
        have hA9 : Ya b w (G8.set y (yc b d5 5 aS aP aN aI rest)) s (nd + 1) (fun a => if a = nd then o else dO a) (fun a => if a = nd then nm else dN a) aS aP aN aI := ⟨hA9'.1, hA9'.2.1, hD9, hA9'.2.2.2⟩
        generalize G8.set y (yc b d5 5 aS aP aN aI rest) = G9 at *
        refine ex_of (fun _ _ hx => rx_k 3 (97, [(5, .int 0), (4, .int (1 <<< (al &&& 31))), (3, .int (1 + mw)), (2, .int o), (1, .int nm), (0, .ref y)], [.ref y]) (fun _ _ => rfl) hx) ?_
        refine ex_of (fun _ _ hx => rx_getf rfl rfl (oc_wd hy9) rfl hx) ?_
        refine ex_of (fun _ _ hx => rx_k 2 (104, [(6, .ref aN), (5, .int 0), (4, .int (1 <<< (al &&& 31))), (3, .int (1 + mw)), (2, .int o), (1, .int nm), (0, .ref y)], [.ref aN]) (fun _ _ => rfl) hx) ?_
        obtain ⟨vA, hAv, lA, eA⟩ := id hA9.2.2.1
        refine ex_of (fun _ _ hx => rx_alen rfl rfl (oc_wd hAv) rfl (by rw [lA]) hx) ?_
        refine ex_of (fun _ _ hx => rx_k 3 (110, [(8, .int 0), (7, .int (Int32.ofNat (nd + 1))), (6, .ref aN), (5, .int 0), (4, .int (1 <<< (al &&& 31))), (3, .int (1 + mw)), (2, .int o), (1, .int nm), (0, .ref y)], []) (fun _ _ => rfl) hx) ?_
        refine ex_of (fun _ _ hx => rx_lo am_X12_define (lo := [(0, .ref y), (1, .int nm), (2, .int o), (3, .int (1 + mw)), (4, .int (1 <<< (al &&& 31))), (5, .int 0), (6, .ref aN), (7, .int (Int32.ofNat (nd + 1))), (8, .int 0)]) (List.forall_mem_cons.mpr ⟨List.mem_of_getElem? (i := 8) rfl, (List.forall_mem_cons.mpr ⟨List.mem_of_getElem? (i := 7) rfl, (List.forall_mem_cons.mpr ⟨List.mem_of_getElem? (i := 6) rfl, (List.forall_mem_cons.mpr ⟨List.mem_of_getElem? (i := 5) rfl, (List.forall_mem_cons.mpr ⟨List.mem_of_getElem? (i := 4) rfl, (List.forall_mem_cons.mpr ⟨List.mem_of_getElem? (i := 3) rfl, (List.forall_mem_cons.mpr ⟨List.mem_of_getElem? (i := 2) rfl, (List.forall_mem_cons.mpr ⟨List.mem_of_getElem? (i := 1) rfl, (List.forall_mem_cons.mpr ⟨List.mem_of_getElem? (i := 0) rfl, (fun _ h => absurd h List.not_mem_nil)⟩)⟩)⟩)⟩)⟩)⟩)⟩)⟩)⟩) rfl hx) ?_
        have hz : (Int32.ofNat (nd + 1)).toInt = (nd + 1 : Nat) := i_wl (by omega)
        have body : ∀ (x v : Int32) (ov : Option Value) (h' : EH), True → 0 ≤ x.toInt → (∀ (t u : Int32), B_all (nd + 1) (fun a => if a = nd then o else dO a) o x v = (true, (t, u)) → x.toInt < 2147483647 → t = x + 1 → Rx sc g_X12_define 4 (110, [(0, .ref y), (1, .int nm), (2, .int o), (3, .int (1 + mw)), (4, .int (1 <<< (al &&& 31))), (5, .int u), (6, .ref aN), (7, .int (Int32.ofNat (nd + 1))), (8, .int t)], []) (wd b w wl G9 s, j8, q8) ov h') → (∀ (t u : Int32), B_all (nd + 1) (fun a => if a = nd then o else dO a) o x v = (false, (t, u)) → Rx sc g_X12_define 4 (148, [(0, .ref y), (1, .int nm), (2, .int o), (3, .int (1 + mw)), (4, .int (1 <<< (al &&& 31))), (5, .int u), (6, .ref aN), (7, .int (Int32.ofNat (nd + 1))), (8, .int t)], []) (wd b w wl G9 s, j8, q8) ov h') → Rx sc g_X12_define 4 (110, [(0, .ref y), (1, .int nm), (2, .int o), (3, .int (1 + mw)), (4, .int (1 <<< (al &&& 31))), (5, .int v), (6, .ref aN), (7, .int (Int32.ofNat (nd + 1))), (8, .int x)], []) (wd b w wl G9 s, j8, q8) ov h' := fun x v ov h' _ hv hc hen => by
          refine rx_k 2 (114, [(0, .ref y), (1, .int nm), (2, .int o), (3, .int (1 + mw)), (4, .int (1 <<< (al &&& 31))), (5, .int v), (6, .ref aN), (7, .int (Int32.ofNat (nd + 1))), (8, .int x)], [.int (Int32.ofNat (nd + 1)), .int x]) (fun _ _ => rfl) ?_
          by_cases d0 : Int32.ofNat (nd + 1) ≤ x
          · skip
            refine rx_icT rfl (bt d0) ?_
            exact hen x v (if_pos d0)
          · have hxl := i_nle d0
            rw [hz] at hxl
            obtain ⟨rr, rr1, u, hu⟩ := eA x.toNatClampNeg (by rw [tn]; omega)
            refine rx_icF rfl (bf d0) rfl ?_
            refine rx_k 2 (121, [(0, .ref y), (1, .int nm), (2, .int o), (3, .int (1 + mw)), (4, .int (1 <<< (al &&& 31))), (5, .int v), (6, .ref aN), (7, .int (Int32.ofNat (nd + 1))), (8, .int x)], [.int x, .ref aN]) (fun _ _ => rfl) ?_
            refine rx_ald rfl rfl (oc_wd hAv) rfl (ev_at_of (n_lt hv) rfl rr1) ?_
            refine rx_k 4 (129, [(9, .ref rr), (0, .ref y), (1, .int nm), (2, .int o), (3, .int (1 + mw)), (4, .int (1 <<< (al &&& 31))), (5, .int v), (6, .ref aN), (7, .int (Int32.ofNat (nd + 1))), (8, .int x)], [.int 0, .ref rr, .int v]) (fun _ _ => rfl) ?_
            refine rx_ild rfl rfl (oc_wd hu) rfl ?_
            refine rx_k 1 (131, [(9, .ref rr), (0, .ref y), (1, .int nm), (2, .int o), (3, .int (1 + mw)), (4, .int (1 <<< (al &&& 31))), (5, .int v), (6, .ref aN), (7, .int (Int32.ofNat (nd + 1))), (8, .int x)], [.int o, .int (if x.toNatClampNeg = nd then o else dO x.toNatClampNeg), .int v]) (fun _ _ => rfl) ?_
            by_cases d1 : (if x.toNatClampNeg = nd then o else dO x.toNatClampNeg) = o
            · skip
              refine rx_icF rfl (nf d1) rfl ?_
              refine rx_k 6 (110, [(8, .int (x + 1)), (5, .int (v + 1)), (9, .ref rr), (0, .ref y), (1, .int nm), (2, .int o), (3, .int (1 + mw)), (4, .int (1 <<< (al &&& 31))), (6, .ref aN), (7, .int (Int32.ofNat (nd + 1)))], []) (fun _ _ => rfl) ?_
              refine rx_lo am_X12_define (lo := [(0, .ref y), (1, .int nm), (2, .int o), (3, .int (1 + mw)), (4, .int (1 <<< (al &&& 31))), (5, .int (v + 1)), (6, .ref aN), (7, .int (Int32.ofNat (nd + 1))), (8, .int (x + 1))]) (List.forall_mem_cons.mpr ⟨List.mem_of_getElem? (i := 3) rfl, (List.forall_mem_cons.mpr ⟨List.mem_of_getElem? (i := 4) rfl, (List.forall_mem_cons.mpr ⟨List.mem_of_getElem? (i := 5) rfl, (List.forall_mem_cons.mpr ⟨List.mem_of_getElem? (i := 6) rfl, (List.forall_mem_cons.mpr ⟨List.mem_of_getElem? (i := 7) rfl, (List.forall_mem_cons.mpr ⟨List.mem_of_getElem? (i := 1) rfl, (List.forall_mem_cons.mpr ⟨List.mem_of_getElem? (i := 8) rfl, (List.forall_mem_cons.mpr ⟨List.mem_of_getElem? (i := 9) rfl, (List.forall_mem_cons.mpr ⟨List.mem_of_getElem? (i := 0) rfl, (fun _ h => absurd h List.not_mem_nil)⟩)⟩)⟩)⟩)⟩)⟩)⟩)⟩)⟩) rfl ?_
              exact hc _ _ ((if_neg d0).trans (if_pos d1)) (by omega) rfl
            · skip
              refine rx_icT rfl (nt d1) ?_
              refine rx_k 5 (110, [(8, .int (x + 1)), (5, .int (v + 0)), (9, .ref rr), (0, .ref y), (1, .int nm), (2, .int o), (3, .int (1 + mw)), (4, .int (1 <<< (al &&& 31))), (6, .ref aN), (7, .int (Int32.ofNat (nd + 1)))], []) (fun _ _ => rfl) ?_
              refine rx_lo am_X12_define (lo := [(0, .ref y), (1, .int nm), (2, .int o), (3, .int (1 + mw)), (4, .int (1 <<< (al &&& 31))), (5, .int (v + 0)), (6, .ref aN), (7, .int (Int32.ofNat (nd + 1))), (8, .int (x + 1))]) (List.forall_mem_cons.mpr ⟨List.mem_of_getElem? (i := 3) rfl, (List.forall_mem_cons.mpr ⟨List.mem_of_getElem? (i := 4) rfl, (List.forall_mem_cons.mpr ⟨List.mem_of_getElem? (i := 5) rfl, (List.forall_mem_cons.mpr ⟨List.mem_of_getElem? (i := 6) rfl, (List.forall_mem_cons.mpr ⟨List.mem_of_getElem? (i := 7) rfl, (List.forall_mem_cons.mpr ⟨List.mem_of_getElem? (i := 1) rfl, (List.forall_mem_cons.mpr ⟨List.mem_of_getElem? (i := 8) rfl, (List.forall_mem_cons.mpr ⟨List.mem_of_getElem? (i := 9) rfl, (List.forall_mem_cons.mpr ⟨List.mem_of_getElem? (i := 0) rfl, (fun _ h => absurd h List.not_mem_nil)⟩)⟩)⟩)⟩)⟩)⟩)⟩)⟩)⟩) rfl ?_
              exact hc _ _ ((if_neg d0).trans (if_neg d1)) (by omega) rfl
        refine ex_of (fun _ _ hx => rx_loop2p (B := B_all (nd + 1) (fun a => if a = nd then o else dO a) o) (fr := fun x v => (110, [(0, .ref y), (1, .int nm), (2, .int o), (3, .int (1 + mw)), (4, .int (1 <<< (al &&& 31))), (5, .int v), (6, .ref aN), (7, .int (Int32.ofNat (nd + 1))), (8, .int x)], [])) (E := fun x v => (148, [(0, .ref y), (1, .int nm), (2, .int o), (3, .int (1 + mw)), (4, .int (1 <<< (al &&& 31))), (5, .int v), (6, .ref aN), (7, .int (Int32.ofNat (nd + 1))), (8, .int x)], [])) body BIG 0 0 _ _ (by decide) (le_enough (by decide)) hx) ?_
        have hall := all_spec (L := nd + 1) (dO := fun a => if a = nd then o else dO a) (o := o) (by omega)
        rw [← htot] at hall
        have hall := Int32.toInt_inj.mp hall
        rw [hall]
        generalize (itr (uc2 (B_all (nd + 1) (fun a => if a = nd then o else dO a) o)) BIG (0, 0)).1 = xe
        show Ex sc g_X12_define 4 (148, [(0, .ref y), (1, .int nm), (2, .int o), (3, .int (1 + mw)), (4, .int (1 <<< (al &&& 31))), (5, .int (D_J6_bitCount_0f7a4 (s 2 o.toNatClampNeg ||| ((1 : Int32) <<< (nm &&& 31))))), (6, .ref aN), (7, .int (Int32.ofNat (nd + 1))), (8, .int xe)], []) (wd b w wl G9 s, j8, q8) _
        refine ex_of (fun _ _ hx => rx_k 1 (149, [(0, .ref y), (1, .int nm), (2, .int o), (3, .int (1 + mw)), (4, .int (1 <<< (al &&& 31))), (5, .int (D_J6_bitCount_0f7a4 (s 2 o.toNatClampNeg ||| ((1 : Int32) <<< (nm &&& 31))))), (6, .ref aN), (7, .int (Int32.ofNat (nd + 1))), (8, .int xe)], [.ref y]) (fun _ _ => rfl) hx) ?_
        refine ex_of (fun _ _ hx => rx_getf rfl rfl (oc_wd hy9) rfl hx) ?_
        refine ex_of (fun _ _ hx => rx_k 4 (157, [(0, .ref y), (1, .int nm), (2, .int o), (3, .int (1 + mw)), (4, .int (1 <<< (al &&& 31))), (5, .int (D_J6_bitCount_0f7a4 (s 2 o.toNatClampNeg ||| ((1 : Int32) <<< (nm &&& 31))))), (6, .ref aN), (7, .int (Int32.ofNat (nd + 1))), (8, .int xe)], [.int (1 <<< (al &&& 31)), .int (1 + mw), .int nm, .int o, .ref b]) (fun _ _ => rfl) hx) ?_
        have hcall := rc_X11_common (sc := sc) (wl := wl) (kn := (j8, q8)) hP9 h.nn tT
        have hNN := nn_X11_common (a1 := o) (a2 := nm) (a3 := 1 + mw) (a4 := (1 : Int32) <<< (al &&& 31)) h.nn
        rw [tD] at hcall hNN
        refine ex_of (fun _ _ hx => rx_inv rfl rfl hcall rfl rfl rfl (q_recv (wg_0 hP9)) rfl rfl hx) ?_
        refine ex_of (fun _ _ hx => rx_k 1 (162, [(0, .ref y), (1, .int nm), (2, .int o), (3, .int (1 + mw)), (4, .int (1 <<< (al &&& 31))), (5, .int (D_J6_bitCount_0f7a4 (s 2 o.toNatClampNeg ||| ((1 : Int32) <<< (nm &&& 31))))), (6, .ref aN), (7, .int (Int32.ofNat (nd + 1))), (8, .int xe)], [.int (D_J6_bitCount_0f7a4 (s 2 o.toNatClampNeg ||| ((1 : Int32) <<< (nm &&& 31)))), .int (D_J6_bitCount_0f7a4 (s 2 o.toNatClampNeg ||| ((1 : Int32) <<< (nm &&& 31))))]) (fun _ _ => rfl) hx) ?_
        refine ex_of (fun _ _ hx => rx_icF rfl (nf rfl) rfl hx) ?_
        refine ex_of (fun _ _ hx => rx_k 2 (170, [(0, .ref y), (1, .int nm), (2, .int o), (3, .int (1 + mw)), (4, .int (1 <<< (al &&& 31))), (5, .int (D_J6_bitCount_0f7a4 (s 2 o.toNatClampNeg ||| ((1 : Int32) <<< (nm &&& 31))))), (6, .ref aN), (7, .int (Int32.ofNat (nd + 1))), (8, .int xe)], [.int 1]) (fun _ _ => rfl) hx) ?_
        have hYb : Yb b y w wl G9 t j8 q8 (m + 12) c (e + 1) 5 5 := yb_def (dr := d5) h tI (fun i j a1 a2 a3 a4 a5 a6 a7 _ => tf i j a1 a2 a3 a4 a5 a6 a7) hNN hP9 hy9 (by omega) (by omega) (by omega) hDC2 (by omega) (by omega) hA9
        exact ex_ri rfl ⟨rfl, G9, t, j8, q8, rfl, hYb, by omega, by omega, fun i j hi => tf i j (by omega) (by omega) (by omega) (by omega) (by omega) (by omega) (by omega)⟩
      · have hret : Yb b y w wl G5 s k1 k2 (m + 12) c (e + 1) 5 5 := ⟨hP5, h.w1, h.nn, by omega, by omega, h.ti, h.lib, h.lc, h.rl, h.o5, d5, aS, aP, aD, aI, rest, nd, dO, dN, hy5, by omega, by omega, by omega, hDC, hA5⟩
        refine ex_of (fun _ _ hx => rx_ifF rfl (bf cv) rfl hx) ?_
        refine ex_of (fun _ _ hx => rx_k 1 (52, [(4, .int (1 <<< (al &&& 31))), (3, .int (1 + mw)), (2, .int o), (1, .int nm), (0, .ref y)], [.int 1]) (fun _ _ => rfl) hx) ?_
        exact ex_ri rfl ⟨rfl, G5, s, k1, k2, rfl, hret, Nat.le_refl _, Nat.le_refl _, fun _ _ _ => rfl⟩
    · have hret : Yb b y w wl G2 s k1 k2 (m + 12) c (e + 1) 5 5 := ⟨hP2, h.w1, h.nn, by omega, by omega, h.ti, h.lib, h.lc, h.rl, h.o5, d2, aS, aP, aD, aI, rest, nd, dO, dN, hy2, by omega, by omega, by omega, hDC, hA2⟩
      refine ex_of (fun _ _ hx => rx_ifT rfl (nt c0) hx) ?_
      refine ex_of (fun _ _ hx => rx_k 1 (172, [(1, .int nm), (0, .ref y)], [.ref y]) (fun _ _ => rfl) hx) ?_
      obtain ⟨vS, hS, lS, eS⟩ := id hA2.1
      refine ex_of (fun _ _ hx => rx_getf rfl rfl (oc_wd hy2) rfl hx) ?_
      refine ex_of (fun _ _ hx => rx_alen rfl rfl (oc_wd hS) rfl (show Int32.ofNat vS.length = s 11 8 by rw [lS]; exact ofn ns0) hx) ?_
      by_cases c1 : s 11 8 = 0
      · skip
        refine ex_of (fun _ _ hx => rx_ifF rfl (nf c1) rfl hx) ?_
        refine ex_of (fun _ _ hx => rx_k 1 (180, [(1, .int nm), (0, .ref y)], [.int 1]) (fun _ _ => rfl) hx) ?_
        exact ex_ri rfl ⟨rfl, G2, s, k1, k2, rfl, hret, Nat.le_refl _, Nat.le_refl _, fun _ _ _ => rfl⟩
      · have hpos : 0 < (s 11 8).toInt := by
          have : (s 11 8).toInt ≠ 0 := fun q => c1 (Int32.toInt_inj.mp (q.trans (by decide)))
          omega
        refine ex_of (fun _ _ hx => rx_ifT rfl (nt c1) hx) ?_
        refine ex_of (fun _ _ hx => rx_k 2 (183, [(1, .int nm), (0, .ref y)], [.ref y, .ref y]) (fun _ _ => rfl) hx) ?_
        refine ex_of (fun _ _ hx => rx_getf rfl rfl (oc_wd hy2) rfl hx) ?_
        refine ex_of (fun _ _ hx => rx_alen rfl rfl (oc_wd hS) rfl (show Int32.ofNat vS.length = s 11 8 by rw [lS]; exact ofn ns0) hx) ?_
        obtain ⟨its, G10, d10, its0, its1, hd10, hP10, hy10, ed10, hA10, hx10⟩ := yd (sc := sc) (wl := wl) (s := s) (k1 := k1) (k2 := k2) hL hP2 hy2 hA2 (by omega) (by omega) (n := (s 11 8)) hpos
        refine ex_of (fun _ _ hx => rx_inv rfl rfl hd10 rfl rfl rfl (q_recv (oc_wd hy2)) rfl rfl hx) ?_
        refine ex_of (fun _ _ hx => rx_k 2 (192, [(2, .int its), (1, .int nm), (0, .ref y)], [.ref y]) (fun _ _ => rfl) hx) ?_
        have hitn : ((its.toNatClampNeg : Nat) : Int) < (s 11 8).toInt := by rw [tn]; omega
        obtain ⟨vS2, hS2, lS2, eS2⟩ := id hA10.1
        obtain ⟨rs, rs1, us, hus⟩ := eS2 its.toNatClampNeg (by omega)
        obtain ⟨ow0, ow1⟩ := ti.ow its.toNatClampNeg hitn
        refine ex_of (fun _ _ hx => rx_getf rfl rfl (oc_wd hy10) rfl hx) ?_
        refine ex_of (fun _ _ hx => rx_k 1 (196, [(2, .int its), (1, .int nm), (0, .ref y)], [.int its, .ref aS]) (fun _ _ => rfl) hx) ?_
        refine ex_of (fun _ _ hx => rx_ald rfl rfl (oc_wd hS2) rfl (ev_at_of (n_lt its0) rfl rs1) hx) ?_
        refine ex_of (fun _ _ hx => rx_k 1 (198, [(2, .int its), (1, .int nm), (0, .ref y)], [.int 0, .ref rs]) (fun _ _ => rfl) hx) ?_
        refine ex_of (fun _ _ hx => rx_ild rfl rfl (oc_wd hus) rfl hx) ?_
        refine ex_of (fun _ _ hx => rx_k 3 (202, [(3, .int (s 12 its.toNatClampNeg)), (2, .int its), (1, .int nm), (0, .ref y)], [.int 3, .ref y]) (fun _ _ => rfl) hx) ?_
        obtain ⟨wq, G11, d11, wq0, wq1, hd11, hP11, hy11, ed11, hA11, hx11⟩ := yd (sc := sc) (wl := wl) (s := s) (k1 := k1) (k2 := k2) hL hP10 hy10 hA10 (by omega) (by omega) (n := 3) (by decide)
        have wq1 : wq.toInt < 3 := wq1
        refine ex_of (fun _ _ hx => rx_inv rfl rfl hd11 rfl rfl rfl (q_recv (oc_wd hy10)) rfl rfl hx) ?_
        have hk : ∃ wv zv : Int32, bz zv = true ∧ ((wv = 2 ∧ zv = 1) ∨ (wv = 1 ∧ zv = 0)) ∧ ((wq = 0 ∧ wv = 2) ∨ (¬ wq = 0 ∧ wv = 1)) := by
          by_cases c1 : wq = 0
          · exact ⟨2, 1, rfl, Or.inl ⟨rfl, rfl⟩, Or.inl ⟨c1, rfl⟩⟩
          · exact ⟨1, 0, rfl, Or.inr ⟨rfl, rfl⟩, Or.inr ⟨c1, rfl⟩⟩
        obtain ⟨wv, zv, hzz, hz12, hk⟩ := hk
        have hj12 : ∀ P, Ex sc g_X12_define 4 (213, [(3, .int (s 12 its.toNatClampNeg)), (2, .int its), (1, .int nm), (0, .ref y)], [.int wv]) (wd b w wl G11 s, k1, k2) P → Ex sc g_X12_define 4 (205, [(3, .int (s 12 its.toNatClampNeg)), (2, .int its), (1, .int nm), (0, .ref y)], [.int wq]) (wd b w wl G11 s, k1, k2) P := fun P hx => by
          rcases hk with ⟨c1, rfl⟩ | ⟨c1, rfl⟩
          · refine ex_of (fun _ _ hx => rx_ifF rfl (nf c1) rfl hx) ?_
            refine ex_of (fun _ _ hx => rx_k 2 (213, [(3, .int (s 12 its.toNatClampNeg)), (2, .int its), (1, .int nm), (0, .ref y)], [.int 2]) (fun _ _ => rfl) hx) ?_
            exact hx
          · refine ex_of (fun _ _ hx => rx_ifT rfl (nt c1) hx) ?_
            refine ex_of (fun _ _ hx => rx_k 1 (213, [(3, .int (s 12 its.toNatClampNeg)), (2, .int its), (1, .int nm), (0, .ref y)], [.int 1]) (fun _ _ => rfl) hx) ?_
            exact hx
        refine hj12 _ ?_
        refine ex_of (fun _ _ hx => rx_k 3 (217, [(4, .int wv), (3, .int (s 12 its.toNatClampNeg)), (2, .int its), (1, .int nm), (0, .ref y)], [.int 4, .ref y]) (fun _ _ => rfl) hx) ?_
        obtain ⟨hq, G13, d13, hq0, hq1, hd13, hP13, hy13, ed13, hA13, hx13⟩ := yd (sc := sc) (wl := wl) (s := s) (k1 := k1) (k2 := k2) hL hP11 hy11 hA11 (by omega) (by omega) (n := 4) (by decide)
        have hq1 : hq.toInt < 4 := hq1
        refine ex_of (fun _ _ hx => rx_inv rfl rfl hd13 rfl rfl rfl (q_recv (oc_wd hy11)) rfl rfl hx) ?_
        have hk2 : ∃ dv : Int32, bz dv = true ∧ (dv = 1 ∨ dv = 0) ∧ ((hq = 0 ∧ dv = 1) ∨ (¬ hq = 0 ∧ dv = 0)) := by
          by_cases c1 : hq = 0
          · exact ⟨1, rfl, Or.inl rfl, Or.inl ⟨c1, rfl⟩⟩
          · exact ⟨0, rfl, Or.inr rfl, Or.inr ⟨c1, rfl⟩⟩
        obtain ⟨dv, hdz, hd01, hk2⟩ := hk2
        have hj14 : ∀ P, Ex sc g_X12_define 4 (228, [(4, .int wv), (3, .int (s 12 its.toNatClampNeg)), (2, .int its), (1, .int nm), (0, .ref y)], [.int dv]) (wd b w wl G13 s, k1, k2) P → Ex sc g_X12_define 4 (220, [(4, .int wv), (3, .int (s 12 its.toNatClampNeg)), (2, .int its), (1, .int nm), (0, .ref y)], [.int hq]) (wd b w wl G13 s, k1, k2) P := fun P hx => by
          rcases hk2 with ⟨c1, rfl⟩ | ⟨c1, rfl⟩
          · refine ex_of (fun _ _ hx => rx_ifF rfl (nf c1) rfl hx) ?_
            refine ex_of (fun _ _ hx => rx_k 2 (228, [(4, .int wv), (3, .int (s 12 its.toNatClampNeg)), (2, .int its), (1, .int nm), (0, .ref y)], [.int 1]) (fun _ _ => rfl) hx) ?_
            exact hx
          · refine ex_of (fun _ _ hx => rx_ifT rfl (nt c1) hx) ?_
            refine ex_of (fun _ _ hx => rx_k 1 (228, [(4, .int wv), (3, .int (s 12 its.toNatClampNeg)), (2, .int its), (1, .int nm), (0, .ref y)], [.int 0]) (fun _ _ => rfl) hx) ?_
            exact hx
        refine hj14 _ ?_
        refine ex_of (fun _ _ hx => rx_k 4 (233, [(5, .int dv), (4, .int wv), (3, .int (s 12 its.toNatClampNeg)), (2, .int its), (1, .int nm), (0, .ref y)], [.int nm, .int (s 12 its.toNatClampNeg), .ref y]) (fun _ _ => rfl) hx) ?_
        obtain ⟨vv, hv, vn, vp⟩ := rc_dof (sc := sc) (wl := wl) (s := s) (k1 := k1) (k2 := k2) hP13 hy13 (nd := nd) (by omega) hA13.2.2.1 (o := s 12 its.toNatClampNeg) (n := nm)
        refine ex_of (fun _ _ hx => rx_inv rfl rfl hv rfl rfl rfl (q_recv (oc_wd hy13)) rfl rfl hx) ?_
        by_cases cv : vv < 0
        · have hno := vn cv
          have hbit : bt_ (s 2 (s 12 its.toNatClampNeg).toNatClampNeg) nm.toNatClampNeg = false := by
            cases hq : bt_ (s 2 (s 12 its.toNatClampNeg).toNatClampNeg) nm.toNatClampNeg with
            | false => rfl
            | true =>
              obtain ⟨i, i1, i2, i3⟩ := (hDC.2.1 (s 12 its.toNatClampNeg).toNatClampNeg nm.toNatClampNeg (by rw [tn]; omega) (by rw [tn]; omega)).mp hq
              exact absurd ⟨Int32.toInt_inj.mp (by rw [i2, tn]; omega), Int32.toInt_inj.mp (by rw [i3, tn]; omega)⟩ (hno i i1)
          have ho2 : (s 12 its.toNatClampNeg).toInt < (s 1 9).toInt := by have := h.o5; omega
          obtain ⟨tT, t, tD, tI, tf, t2⟩ := t_define ti (z := zv) (d := dv) its0 its1 nm0 nm1 ho2 hbit
          obtain ⟨hDC2, htot⟩ := dc_add hDC ow0 ow1 nm0 nm1 hbit t2
          obtain ⟨p80, p81⟩ := ti.p8 its.toNatClampNeg
          refine ex_of (fun _ _ hx => rx_ifT rfl (bt cv) hx) ?_
          refine ex_of (fun _ _ hx => rx_k 2 (243, [(5, .int dv), (4, .int wv), (3, .int (s 12 its.toNatClampNeg)), (2, .int its), (1, .int nm), (0, .ref y)], [.ref y, .ref y]) (fun _ _ => rfl) hx) ?_
          refine ex_of (fun _ _ hx => rx_getf rfl rfl (oc_wd hy13) rfl hx) ?_
          refine ex_of (fun _ _ hx => rx_k 1 (248, [(5, .int dv), (4, .int wv), (3, .int (s 12 its.toNatClampNeg)), (2, .int its), (1, .int nm), (0, .ref y)], [.int 6, .ref aD, .ref y]) (fun _ _ => rfl) hx) ?_
          refine ex_of (fun _ _ hx => rx_newa (a := G13.length) (h1 := (wd b w wl (G13 ++ [(.inl 0, [.int 0, .int 0, .int 0, .int 0, .int 0, .int 0])]) s, (k1 + 1), (k2 + 6))) rfl rfl (by decide) rfl (congrArg (fun z => (z, (k1 + 1), (k2 + 6))) (wd_push hP13)) wd_len hx) ?_
          refine ex_of (fun _ _ hx => rx_k 3 (253, [(5, .int dv), (4, .int wv), (3, .int (s 12 its.toNatClampNeg)), (2, .int its), (1, .int nm), (0, .ref y)], [.int (s 12 its.toNatClampNeg), .int 0, .ref G13.length, .ref G13.length, .ref aD, .ref y]) (fun _ _ => rfl) hx) ?_
          refine ex_of (fun _ _ hx => rx_ist (h1 := (wd b w wl (G13 ++ [(.inl 0, [.int (s 12 its.toNatClampNeg), .int 0, .int 0, .int 0, .int 0, .int 0])]) s, (k1 + 1), (k2 + 6))) rfl rfl (oc_wd (oc_top hP13)) rfl rfl (congrArg (fun z => (z, (k1 + 1), (k2 + 6))) (wd_top hP13)) hx) ?_
          refine ex_of (fun _ _ hx => rx_k 3 (257, [(5, .int dv), (4, .int wv), (3, .int (s 12 its.toNatClampNeg)), (2, .int its), (1, .int nm), (0, .ref y)], [.int nm, .int 1, .ref G13.length, .ref G13.length, .ref aD, .ref y]) (fun _ _ => rfl) hx) ?_
          refine ex_of (fun _ _ hx => rx_ist (h1 := (wd b w wl (G13 ++ [(.inl 0, [.int (s 12 its.toNatClampNeg), .int nm, .int 0, .int 0, .int 0, .int 0])]) s, (k1 + 1), (k2 + 6))) rfl rfl (oc_wd (oc_top hP13)) rfl rfl (congrArg (fun z => (z, (k1 + 1), (k2 + 6))) (wd_top hP13)) hx) ?_
          refine ex_of (fun _ _ hx => rx_k 3 (262, [(5, .int dv), (4, .int wv), (3, .int (s 12 its.toNatClampNeg)), (2, .int its), (1, .int nm), (0, .ref y)], [.int wv, .int 2, .ref G13.length, .ref G13.length, .ref aD, .ref y]) (fun _ _ => rfl) hx) ?_
          refine ex_of (fun _ _ hx => rx_ist (h1 := (wd b w wl (G13 ++ [(.inl 0, [.int (s 12 its.toNatClampNeg), .int nm, .int wv, .int 0, .int 0, .int 0])]) s, (k1 + 1), (k2 + 6))) rfl rfl (oc_wd (oc_top hP13)) rfl rfl (congrArg (fun z => (z, (k1 + 1), (k2 + 6))) (wd_top hP13)) hx) ?_
          refine ex_of (fun _ _ hx => rx_k 3 (266, [(5, .int dv), (4, .int wv), (3, .int (s 12 its.toNatClampNeg)), (2, .int its), (1, .int nm), (0, .ref y)], [.int its, .int 3, .ref G13.length, .ref G13.length, .ref aD, .ref y]) (fun _ _ => rfl) hx) ?_
          refine ex_of (fun _ _ hx => rx_ist (h1 := (wd b w wl (G13 ++ [(.inl 0, [.int (s 12 its.toNatClampNeg), .int nm, .int wv, .int its, .int 0, .int 0])]) s, (k1 + 1), (k2 + 6))) rfl rfl (oc_wd (oc_top hP13)) rfl rfl (congrArg (fun z => (z, (k1 + 1), (k2 + 6))) (wd_top hP13)) hx) ?_
          refine ex_of (fun _ _ hx => rx_k 3 (270, [(5, .int dv), (4, .int wv), (3, .int (s 12 its.toNatClampNeg)), (2, .int its), (1, .int nm), (0, .ref y)], [.ref y, .int 4, .ref G13.length, .ref G13.length, .ref aD, .ref y]) (fun _ _ => rfl) hx) ?_
          have hyr := oc_push (d := ((.inl 0, [.int (s 12 its.toNatClampNeg), .int nm, .int wv, .int its, .int 0, .int 0]) : EC)) hy13
          obtain ⟨vP, hPv, lP, eP⟩ := id (ya_xt (xt_push (x := 9) (d := ((.inl 0, [.int (s 12 its.toNatClampNeg), .int nm, .int wv, .int its, .int 0, .int 0]) : EC))) hA13).2.1
          obtain ⟨rp, rp1, vq, hq1, lq1, eq1⟩ := eP its.toNatClampNeg (by omega)
          refine ex_of (fun _ _ hx => rx_getf rfl rfl (oc_wd hyr) rfl hx) ?_
          refine ex_of (fun _ _ hx => rx_k 1 (274, [(5, .int dv), (4, .int wv), (3, .int (s 12 its.toNatClampNeg)), (2, .int its), (1, .int nm), (0, .ref y)], [.int its, .ref aP, .int 4, .ref G13.length, .ref G13.length, .ref aD, .ref y]) (fun _ _ => rfl) hx) ?_
          refine ex_of (fun _ _ hx => rx_ald rfl rfl (oc_wd hPv) rfl (ev_at_of (n_lt its0) rfl rp1) hx) ?_
          refine ex_of (fun _ _ hx => rx_alen rfl rfl (oc_wd hq1) rfl (show Int32.ofNat vq.length = s 15 its.toNatClampNeg by rw [lq1]; exact ofn p80) hx) ?_
          refine ex_of (fun _ _ hx => rx_ist (h1 := (wd b w wl (G13 ++ [(.inl 0, [.int (s 12 its.toNatClampNeg), .int nm, .int wv, .int its, .int (s 15 its.toNatClampNeg), .int 0])]) s, (k1 + 1), (k2 + 6))) rfl rfl (oc_wd (oc_top hP13)) rfl rfl (congrArg (fun z => (z, (k1 + 1), (k2 + 6))) (wd_top hP13)) hx) ?_
          refine ex_of (fun _ _ hx => rx_k 3 (281, [(5, .int dv), (4, .int wv), (3, .int (s 12 its.toNatClampNeg)), (2, .int its), (1, .int nm), (0, .ref y)], [.int dv, .int 5, .ref G13.length, .ref G13.length, .ref aD, .ref y]) (fun _ _ => rfl) hx) ?_
          refine ex_of (fun _ _ hx => rx_ist (h1 := (wd b w wl (G13 ++ [(.inl 0, [.int (s 12 its.toNatClampNeg), .int nm, .int wv, .int its, .int (s 15 its.toNatClampNeg), .int dv])]) s, (k1 + 1), (k2 + 6))) rfl rfl (oc_wd (oc_top hP13)) rfl rfl (congrArg (fun z => (z, (k1 + 1), (k2 + 6))) (wd_top hP13)) hx) ?_
          have hr15 : Oc b w (G13 ++ [(.inl 0, [.int (s 12 its.toNatClampNeg), .int nm, .int wv, .int its, .int (s 15 its.toNatClampNeg), .int dv])]) G13.length (.inl 0, [.int (s 12 its.toNatClampNeg), .int nm, .int wv, .int its, .int (s 15 its.toNatClampNeg), .int dv]) := oc_top hP13
          have hP15 := wok_push (c := ((.inl 0, [.int (s 12 its.toNatClampNeg), .int nm, .int wv, .int its, .int (s 15 its.toNatClampNeg), .int dv]) : EC)) hP13
          have hy15 := oc_push (d := ((.inl 0, [.int (s 12 its.toNatClampNeg), .int nm, .int wv, .int its, .int (s 15 its.toNatClampNeg), .int dv]) : EC)) hy13
          have hA15 := ya_xt (xt_push (x := 9) (d := ((.inl 0, [.int (s 12 its.toNatClampNeg), .int nm, .int wv, .int its, .int (s 15 its.toNatClampNeg), .int dv]) : EC))) hA13
          generalize G13 ++ [(.inl 0, [.int (s 12 its.toNatClampNeg), .int nm, .int wv, .int its, .int (s 15 its.toNatClampNeg), .int dv])] = G15 at *
          obtain ⟨G16, j16, q16, hw16, ej16, ek16, el16, hP16, hx16, hoc16, hN16⟩ := yw (sc := sc) (wl := wl) (s := s) (k1 := (k1 + 1)) (k2 := (k2 + 6)) (Or.inl ⟨rfl, rfl, rfl⟩) hP15 hA15.2.2.1 (by omega) (fun i z q => by obtain ⟨u, hu⟩ := q; exact ⟨_, hu⟩) hr15
          refine ex_of (fun _ _ hx => rx_inv rfl rfl hw16 rfl rfl rfl rfl rfl rfl hx) ?_
          have hy16 := hoc16 _ _ hy15
          have hA16 := ya_xt hx16 hA15
          have hrr16 := hoc16 _ _ hr15
          have hD16 : Aa b w G16 G15.length 3 (nd + 1) (fun a z => Row2 b w G16 z (if a = nd then (s 12 its.toNatClampNeg) else dO a) (if a = nd then nm else dN a)) := aa_cg hN16 rfl (fun a z _ q => by
            rcases q with ⟨q1, q2⟩ | ⟨q1, q2⟩
            · rw [if_neg (by omega), if_neg (by omega)]; exact row2_xt (by decide) hx16 q2
            · rw [if_pos q1, if_pos q1]; exact ⟨_, q2 ▸ hrr16⟩)
          generalize G15.length = aN at *
          have hset17 : ((wd b w wl G16 s).set y (.inr 12, (.ref b :: .float 0 :: .int d13 :: .int 5 :: .ref aS :: .ref aP :: .ref aD :: .ref aI :: rest).set 6 (.ref aN)), j16, q16) = (wd b w wl (G16.set y (yc b d13 5 aS aP aN aI rest)) s, j16, q16) := congrArg (fun z => (z, j16, q16)) (wd_oset hP16 hy16.1)
          refine ex_of (fun _ _ hx => rx_putf rfl rfl (oc_wd hy16) (by show (true && decide (6 < rest.length + 8)) = true; rw [decide_eq_true (by omega)]; rfl) hset17 hx) ?_
          have hxy17 : Xt 9 b w G16 w (G16.set y (yc b d13 5 aS aP aN aI rest)) := xt_obj (k := 12) hy16
          have hy17 : Oc b w (G16.set y (yc b d13 5 aS aP aN aI rest)) y (yc b d13 5 aS aP aN aI rest) := oc_self hy16
          have hP17 := wok_set (a := y) (c := yc b d13 5 aS aP aN aI rest) hP16
          have hA17' := ya_xt hxy17 hA16
          have hD17 := aa_xt (Q := fun a z => Row2 b w (G16.set y (yc b d13 5 aS aP aN aI rest)) z (if a = nd then (s 12 its.toNatClampNeg) else dO a) (if a = nd then nm else dN a)) (by decide) hxy17 hD16 (fun a z q => row2_xt (by decide) hxy17 q)
          have hA17 : Ya b w (G16.set y (yc b d13 5 aS aP aN aI rest)) s (nd + 1) (fun a => if a = nd then (s 12 its.toNatClampNeg) else dO a) (fun a => if a = nd then nm else dN a) aS aP aN aI := ⟨hA17'.1, hA17'.2.1, hD17, hA17'.2.2.2⟩
          generalize G16.set y (yc b d13 5 aS aP aN aI rest) = G17 at *
          refine ex_of (fun _ _ hx => rx_k 1 (289, [(5, .int dv), (4, .int wv), (3, .int (s 12 its.toNatClampNeg)), (2, .int its), (1, .int nm), (0, .ref y)], [.ref y]) (fun _ _ => rfl) hx) ?_
          refine ex_of (fun _ _ hx => rx_getf rfl rfl (oc_wd hy17) rfl hx) ?_
          refine ex_of (fun _ _ hx => rx_k 4 (297, [(5, .int dv), (4, .int wv), (3, .int (s 12 its.toNatClampNeg)), (2, .int its), (1, .int nm), (0, .ref y)], [.int 2, .int wv, .int nm, .int its, .ref b]) (fun _ _ => rfl) hx) ?_
          have hj18 : ∀ P, Ex sc g_X12_define 4 (305, [(5, .int dv), (4, .int wv), (3, .int (s 12 its.toNatClampNeg)), (2, .int its), (1, .int nm), (0, .ref y)], [.int zv, .int nm, .int its, .ref b]) (wd b w wl G17 s, j16, q16) P → Ex sc g_X12_define 4 (297, [(5, .int dv), (4, .int wv), (3, .int (s 12 its.toNatClampNeg)), (2, .int its), (1, .int nm), (0, .ref y)], [.int 2, .int wv, .int nm, .int its, .ref b]) (wd b w wl G17 s, j16, q16) P := fun P hx => by
            rcases hz12 with ⟨rfl, rfl⟩ | ⟨rfl, rfl⟩
            · refine ex_of (fun _ _ hx => rx_icF rfl (nf rfl) rfl hx) ?_
              refine ex_of (fun _ _ hx => rx_k 2 (305, [(5, .int dv), (4, .int 2), (3, .int (s 12 its.toNatClampNeg)), (2, .int its), (1, .int nm), (0, .ref y)], [.int 1, .int nm, .int its, .ref b]) (fun _ _ => rfl) hx) ?_
              exact hx
            · refine ex_of (fun _ _ hx => rx_icT rfl (nt (by decide)) hx) ?_
              refine ex_of (fun _ _ hx => rx_k 1 (305, [(5, .int dv), (4, .int 1), (3, .int (s 12 its.toNatClampNeg)), (2, .int its), (1, .int nm), (0, .ref y)], [.int 0, .int nm, .int its, .ref b]) (fun _ _ => rfl) hx) ?_
              exact hx
          refine hj18 _ ?_
          refine ex_of (fun _ _ hx => rx_k 2 (308, [(5, .int dv), (4, .int wv), (3, .int (s 12 its.toNatClampNeg)), (2, .int its), (1, .int nm), (0, .ref y)], [.int 1, .int dv, .int zv, .int nm, .int its, .ref b]) (fun _ _ => rfl) hx) ?_
          have hj19 : ∀ P, Ex sc g_X12_define 4 (316, [(5, .int dv), (4, .int wv), (3, .int (s 12 its.toNatClampNeg)), (2, .int its), (1, .int nm), (0, .ref y)], [.int dv, .int zv, .int nm, .int its, .ref b]) (wd b w wl G17 s, j16, q16) P → Ex sc g_X12_define 4 (308, [(5, .int dv), (4, .int wv), (3, .int (s 12 its.toNatClampNeg)), (2, .int its), (1, .int nm), (0, .ref y)], [.int 1, .int dv, .int zv, .int nm, .int its, .ref b]) (wd b w wl G17 s, j16, q16) P := fun P hx => by
            rcases hd01 with rfl | rfl
            · refine ex_of (fun _ _ hx => rx_icF rfl (nf rfl) rfl hx) ?_
              refine ex_of (fun _ _ hx => rx_k 2 (316, [(5, .int 1), (4, .int wv), (3, .int (s 12 its.toNatClampNeg)), (2, .int its), (1, .int nm), (0, .ref y)], [.int 1, .int zv, .int nm, .int its, .ref b]) (fun _ _ => rfl) hx) ?_
              exact hx
            · refine ex_of (fun _ _ hx => rx_icT rfl (nt (by decide)) hx) ?_
              refine ex_of (fun _ _ hx => rx_k 1 (316, [(5, .int 0), (4, .int wv), (3, .int (s 12 its.toNatClampNeg)), (2, .int its), (1, .int nm), (0, .ref y)], [.int 0, .int zv, .int nm, .int its, .ref b]) (fun _ _ => rfl) hx) ?_
              exact hx
          refine hj19 _ ?_
          have hcall := rc_X11_define (sc := sc) (wl := wl) (kn := (j16, q16)) hP17 h.nn hzz hdz tT
          have hNN := nn_X11_define (a1 := its) (a2 := nm) (a3 := zv) (a4 := dv) h.nn
          rw [tD] at hcall hNN
          refine ex_of (fun _ _ hx => rx_inv rfl rfl hcall rfl rfl rfl (q_recv (wg_0 hP17)) rfl rfl hx) ?_
          have hYb : Yb b y w wl G17 t j16 q16 (m + 12) c (e + 1) 5 5 := yb_def (dr := d13) h tI (fun i j a1 a2 a3 a4 a5 _ _ a8 => tf i j a1 a2 a3 a4 a5 a8) hNN hP17 hy17 (by omega) (by omega) (by omega) hDC2 (by omega) (by omega) hA17
          obtain ⟨vP3, hP3v, lP3, eP3⟩ := id hA17.2.1
          obtain ⟨rp3, rp31, vq3, hq3, lq3, eq3⟩ := eP3 its.toNatClampNeg (by omega)
          refine ex_of (fun _ _ hx => rx_k 1 (320, [(5, .int dv), (4, .int wv), (3, .int (s 12 its.toNatClampNeg)), (2, .int its), (1, .int nm), (0, .ref y)], [.ref y, .int (s 15 its.toNatClampNeg)]) (fun _ _ => rfl) hx) ?_
          refine ex_of (fun _ _ hx => rx_getf rfl rfl (oc_wd hy17) rfl hx) ?_
          refine ex_of (fun _ _ hx => rx_k 1 (324, [(5, .int dv), (4, .int wv), (3, .int (s 12 its.toNatClampNeg)), (2, .int its), (1, .int nm), (0, .ref y)], [.int its, .ref aP, .int (s 15 its.toNatClampNeg)]) (fun _ _ => rfl) hx) ?_
          refine ex_of (fun _ _ hx => rx_ald rfl rfl (oc_wd hP3v) rfl (ev_at_of (n_lt its0) rfl rp31) hx) ?_
          refine ex_of (fun _ _ hx => rx_alen rfl rfl (oc_wd hq3) rfl (show Int32.ofNat vq3.length = s 15 its.toNatClampNeg by rw [lq3]; exact ofn p80) hx) ?_
          refine ex_of (fun _ _ hx => rx_icF rfl (nf rfl) rfl hx) ?_
          refine ex_of (fun _ _ hx => rx_k 2 (334, [(5, .int dv), (4, .int wv), (3, .int (s 12 its.toNatClampNeg)), (2, .int its), (1, .int nm), (0, .ref y)], [.int 1]) (fun _ _ => rfl) hx) ?_
          exact ex_ri rfl ⟨rfl, G17, t, j16, q16, rfl, hYb, by omega, by omega, fun i j hi => tf i j (by omega) (by omega) (by omega) (by omega) (by omega) (by omega)⟩
        · have hret2 : Yb b y w wl G13 s k1 k2 (m + 12) c (e + 1) 5 5 := ⟨hP13, h.w1, h.nn, by omega, by omega, h.ti, h.lib, h.lc, h.rl, h.o5, d13, aS, aP, aD, aI, rest, nd, dO, dN, hy13, by omega, by omega, by omega, hDC, hA13⟩
          refine ex_of (fun _ _ hx => rx_ifF rfl (bf cv) rfl hx) ?_
          refine ex_of (fun _ _ hx => rx_k 1 (240, [(5, .int dv), (4, .int wv), (3, .int (s 12 its.toNatClampNeg)), (2, .int its), (1, .int nm), (0, .ref y)], [.int 1]) (fun _ _ => rfl) hx) ?_
          exact ex_ri rfl ⟨rfl, G13, s, k1, k2, rfl, hret2, Nat.le_refl _, Nat.le_refl _, fun _ _ _ => rfl⟩
  obtain ⟨o, h', hx, rfl, H', s', j1, j2, rfl, r1, r2, r3, r4⟩ := main
  exact ⟨H', s', j1, j2, rx_mc hx rfl rfl (Nat.ble_eq_true_of_le r2) (Nat.ble_eq_true_of_le r3), r1, r2, r3, r4⟩
end Y6
