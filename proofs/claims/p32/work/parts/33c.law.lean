/-! the law's step: an object more, and the bounds of the reach -/
section L3S
variable {sc : Nat × (Nat → Int32)} {b y w wl : Nat} {H : List EC} {s s0 s1 : Sg} {k1 k2 m : Nat} {c : Int} {e : Nat} {a i : Int32} {wl1 N aw : Nat} {tm st : Int32} {P : Option Value → EH → Prop}
theorem yb_common {H : List EC} {u : Sg} {k1 k2 m e : Nat} {c : Int} {o a : Int32} (h : Yb b y w wl H u k1 k2 m c e 5 5) (ho : o.toInt + 1 = (u 1 9).toInt) (h5 : 5 ≤ o.toInt) (hz : u 2 o.toNatClampNeg = 0) (ha : rg a 8) : ∃ t : Sg, Rc sc 4 165 [.ref b, .int o, .int a, .int 9, .int 1] (wd b w wl H u, k1, k2) (some (.int 1)) (wd b w wl H t, k1, k2) ∧ Yb b y w wl H t k1 k2 m c e 5 5 ∧ (∀ i j, i ≠ 2 → i ≠ 3 → i ≠ 5 → i ≠ 6 → i ≠ 7 → i ≠ 8 → i ≠ 9 → t i j = u i j) ∧ (∀ j, j ≠ o.toNatClampNeg → t 2 j = u 2 j) ∧ (∀ i j, i ≠ 2 → j ≠ o.toNatClampNeg → j ≠ o.toNatClampNeg * 20 + a.toNatClampNeg → t i j = u i j) ∧ (∀ i j, i ≠ 2 → i ≠ 3 → j ≠ o.toNatClampNeg * 20 + a.toNatClampNeg → t i j = u i j) := by
  have hN1 := h.ti.no1
  obtain ⟨tT, t, tD, tI, f1, f2, f3, f4⟩ := t_common h.ti (o := o) (n := a) (m := 9) (al := 1) (by omega) (by omega) ha.1 ha.2 (by decide) (by decide) (Or.inl rfl) (by rw [hz, bt_0])
  have hcall := rc_X11_common (sc := sc) (wl := wl) (kn := (k1, k2)) h.ok h.nn tT
  have hNN := nn_X11_common (a1 := o) (a2 := a) (a3 := 9) (a4 := 1) h.nn
  rw [tD] at hcall hNN
  have hbit : D_J6_bitCount_0f7a4 (u 2 o.toNatClampNeg ||| (1 <<< (a &&& 31))) = 1 := by rw [hz]; exact bits8 ha
  have hcall : Rc sc 4 165 [.ref b, .int o, .int a, .int 9, .int 1] (wd b w wl H u, k1, k2) (some (.int (D_J6_bitCount_0f7a4 (u 2 o.toNatClampNeg ||| (1 <<< (a &&& 31)))))) (wd b w wl H t, k1, k2) := hcall
  rw [hbit] at hcall
  obtain ⟨dr, aS, aP, aD, aI, rest, nd, dO, dN, hy, h0, h1, hnd, hDC, hA⟩ := h.ya
  have fd : ∀ i j, i ≠ 2 → i ≠ 3 → i ≠ 5 → i ≠ 6 → i ≠ 7 → i ≠ 8 → i ≠ 9 → t i j = u i j := f1
  have f22 : ∀ j, j ≠ o.toNatClampNeg → t 2 j = u 2 j := fun j hj => by rw [f2, if_neg hj]
  refine ⟨t, hcall, ⟨h.ok, h.w1, hNN, h.b1, h.b2, tI, l0_of h.lib (fun k j _ _ _ => fd k j (by omega) (by omega) (by omega) (by omega) (by omega) (by omega) (by omega)), ?_, ?_, ?_, dr, aS, aP, aD, aI, rest, nd, dO, dN, hy, h0, h1, hnd, hDC.of (fun o' ho' => f22 o' (by rw [tn]; omega)), ya_cg hA (fd _ _ (by decide) (by decide) (by decide) (by decide) (by decide) (by decide) (by decide)) (fun _ => fd _ _ (by decide) (by decide) (by decide) (by decide) (by decide) (by decide) (by decide)) (fun _ => fd _ _ (by decide) (by decide) (by decide) (by decide) (by decide) (by decide) (by decide)) (fd _ _ (by decide) (by decide) (by decide) (by decide) (by decide) (by decide) (by decide))⟩, fd, f22, f3, f4⟩
  · rw [fd _ _ (by decide) (by decide) (by decide) (by decide) (by decide) (by decide) (by decide)]; exact h.lc
  · rw [fd _ _ (by decide) (by decide) (by decide) (by decide) (by decide) (by decide) (by decide), fd _ _ (by decide) (by decide) (by decide) (by decide) (by decide) (by decide) (by decide)]; exact h.rl
  · rw [fd _ _ (by decide) (by decide) (by decide) (by decide) (by decide) (by decide) (by decide)]; exact h.o5
theorem seg_d (hf : Zf s0 s1 a i wl1 N) (h : Zw b y w wl H s k1 k2 m c e s0 s1 N aw) (cont : ∀ (w' wl' : Nat) (H' : List EC) (s' : Sg) (j1 j2 : Nat), Zw b y w' wl' H' s' j1 j2 (m + 60) c e s0 s1 N aw → k1 ≤ j1 → k2 ≤ j2 → Ex sc g_law 10 (348, [(0, .float 0), (1, .int tm), (2, .ref y), (3, .ref b), (4, .int st), (5, .int a), (6, .int i), (7, .int (D_X0_count 38 s1)), (10, .ref aw)], []) (wd b w' wl' H' s', j1, j2) P) : Ex sc g_law 10 (282, [(0, .float 0), (1, .int tm), (2, .ref y), (3, .ref b), (4, .int st), (5, .int a), (6, .int i), (7, .int (D_X0_count 38 s1)), (10, .ref aw)], []) (wd b w wl H s, k1, k2) P := by
  obtain ⟨hY, hT, hW, hl⟩ := id h
  have hP := hY.ok
  have b1 := hY.b1; have b2 := hY.b2
  by_cases c0 : 10 ≤ s 1 9
  · refine ex_of (fun _ _ hx => rx_k 2 (284, [(0, .float 0), (1, .int tm), (2, .ref y), (3, .ref b), (4, .int st), (5, .int a), (6, .int i), (7, .int (D_X0_count 38 s1)), (10, .ref aw)], [.int 0, .ref b]) (fun _ _ => rfl) hx) ?_
    refine ex_of (fun _ _ hx => rx_inv rfl rfl (z_many hP hY.nn mt_0 md_0) rfl rfl rfl (q_recv (wg_0 hP)) rfl rfl hx) ?_
    refine ex_of (fun _ _ hx => rx_k 1 (289, [(0, .float 0), (1, .int tm), (2, .ref y), (3, .ref b), (4, .int st), (5, .int a), (6, .int i), (7, .int (D_X0_count 38 s1)), (10, .ref aw)], [.int 10, .int (s 1 9)]) (fun _ _ => rfl) hx) ?_
    refine ex_of (fun _ _ hx => rx_icT rfl (bt c0) hx) ?_
    exact cont w wl H s k1 k2 (h.le (by omega) (Int.le_refl _)) (Nat.le_refl _) (Nat.le_refl _)
  · refine ex_of (fun _ _ hx => rx_k 2 (284, [(0, .float 0), (1, .int tm), (2, .ref y), (3, .ref b), (4, .int st), (5, .int a), (6, .int i), (7, .int (D_X0_count 38 s1)), (10, .ref aw)], [.int 0, .ref b]) (fun _ _ => rfl) hx) ?_
    refine ex_of (fun _ _ hx => rx_inv rfl rfl (z_many hP hY.nn mt_0 md_0) rfl rfl rfl (q_recv (wg_0 hP)) rfl rfl hx) ?_
    refine ex_of (fun _ _ hx => rx_k 1 (289, [(0, .float 0), (1, .int tm), (2, .ref y), (3, .ref b), (4, .int st), (5, .int a), (6, .int i), (7, .int (D_X0_count 38 s1)), (10, .ref aw)], [.int 10, .int (s 1 9)]) (fun _ _ => rfl) hx) ?_
    refine ex_of (fun _ _ hx => rx_icF rfl (bf c0) rfl hx) ?_
    have hc10 : (s 1 9).toInt < 10 := i_nle c0
    have ho5 := hY.o5
    obtain ⟨r1, g1⟩ := yb_object (sc := sc) hY hc10
    have i1 : (s 1 9 + 1).toInt = (s 1 9).toInt + 1 := i_add1 (by omega)
    have u9 : (up s 1 9 (s 1 9 + 1)) 1 9 = s 1 9 + 1 := rd_eq
    have u2 : (up s 1 9 (s 1 9 + 1)) 2 (s 1 9).toNatClampNeg = 0 := by
      rw [up_ne (by decide)]; exact hY.ti.dz _ (by rw [tn]; omega)
    have g1 : Yb b y w wl H (up s 1 9 (s 1 9 + 1)) k1 k2 m c e 5 5 := ⟨g1.ok, g1.w1, g1.nn, g1.b1, g1.b2, g1.ti, g1.lib, g1.lc, g1.rl, by rw [u9]; omega, g1.ya⟩
    have ht1 := tb_object hT hc10
    have tn1 := hT.no1
    have tn0 := hT.no0
    obtain ⟨t, r2, g2, f1, f2, f3, f4⟩ := yb_common (sc := sc) g1 (o := s 1 9) (a := a) (by rw [u9, i1]) (by omega) u2 hf.2.2.2.1
    have ra := hf.2.2.2.1
    have eo : (s 1 9).toNatClampNeg = (s 1 9).toInt.toNat := rfl
    have ht2 : Tb s0 t := tb_common ht1 (o := (s 1 9).toNatClampNeg) (S := (s 1 9).toNatClampNeg * 20 + a.toNatClampNeg) (by omega) (by omega) f1 f2 (fun j q1 q2 => f3 3 j (by decide) q1 q2) f4
    have hZ : Zw b y w wl H t k1 k2 m c e s0 s1 N aw := ⟨g2, ht2, hW, by
      rw [cl_cg2 (s := s) (fun k j q1 q2 => by rw [f1 k j (by omega) (by omega) (by omega) (by omega) (by omega) (by omega) (by omega), up_ne (by omega)])]; exact hl⟩
    have t9 : t 1 9 = s 1 9 + 1 := by rw [f1 _ _ (by decide) (by decide) (by decide) (by decide) (by decide) (by decide) (by decide), u9]
    obtain ⟨w2, wl2, H2, s2, x1, x2, p1, p2, p3, p4, p5, p6, p7⟩ := zw_link (sc := sc) hf hZ
    have q9 : s2 1 9 = s 1 9 + 1 := (p4.lo (by decide)).trans t9
    have s19 : (s1 1 9).toInt ≤ (s 1 9).toInt := by rw [hf.1.lo (by decide)]; exact tn1
    have hpl : D_X10_placeOf 38 s2 (s 1 9) = -1 := z_place p5.pc.pl.od.rt.st.tk s19
    have hh6 : D_X6_has s2 (s 1 9) = 1 := by
      unfold D_X6_has
      rw [q9, if_neg (by rw [Int32.lt_iff_toInt_lt, show (0 : Int32).toInt = 0 from rfl]; omega), if_neg (by rw [Int32.le_iff_toInt_le, i1]; omega), if_neg c0]
    have hoT : T_X11_ofObject s2 (s 1 9) 3 = true := by
      unfold T_X11_ofObject
      rw [hh6]; rfl
    have hoD : D_X11_ofObject s2 (s 1 9) 3 = -1 := by
      unfold D_X11_ofObject
      rw [hh6, if_neg (by decide), if_neg (by decide), if_neg (by decide), if_neg (by decide), if_pos rfl, hpl]
    have r5 := rc_X11_ofObject (sc := sc) (wl := wl2) (kn := (x1, x2)) p2.1.ok p2.1.nn hoT
    rw [hoD] at r5
    refine ex_of (fun _ _ hx => rx_k 1 (293, [(0, .float 0), (1, .int tm), (2, .ref y), (3, .ref b), (4, .int st), (5, .int a), (6, .int i), (7, .int (D_X0_count 38 s1)), (10, .ref aw)], [.ref b]) (fun _ _ => rfl) hx) ?_
    refine ex_of (fun _ _ hx => rx_inv rfl rfl r1 rfl rfl rfl (q_recv (wg_0 hP)) rfl rfl hx) ?_
    refine ex_of (fun _ _ hx => rx_k 6 (306, [(11, .int (s 1 9)), (0, .float 0), (1, .int tm), (2, .ref y), (3, .ref b), (4, .int st), (5, .int a), (6, .int i), (7, .int (D_X0_count 38 s1)), (10, .ref aw)], [.int 1, .int 9, .int a, .int (s 1 9), .ref b]) (fun _ _ => rfl) hx) ?_
    refine ex_of (fun _ _ hx => rx_inv rfl rfl r2 rfl rfl rfl (q_recv (wg_0 hP)) rfl rfl hx) ?_
    refine ex_of (fun _ _ hx => rx_k 1 (310, [(11, .int (s 1 9)), (0, .float 0), (1, .int tm), (2, .ref y), (3, .ref b), (4, .int st), (5, .int a), (6, .int i), (7, .int (D_X0_count 38 s1)), (10, .ref aw)], [.int 1, .int 1]) (fun _ _ => rfl) hx) ?_
    refine ex_of (fun _ _ hx => rx_icF rfl (nf rfl) rfl hx) ?_
    refine ex_of (fun _ _ hx => rx_k 3 (318, [(11, .int (s 1 9)), (0, .float 0), (1, .int tm), (2, .ref y), (3, .ref b), (4, .int st), (5, .int a), (6, .int i), (7, .int (D_X0_count 38 s1)), (10, .ref aw)], [.int i, .int a, .ref b]) (fun _ _ => rfl) hx) ?_
    refine ex_of (fun _ _ hx => rx_inv rfl rfl p1 rfl rfl rfl (q_recv (wg_0 hP)) rfl rfl hx) ?_
    refine ex_of (fun _ _ hx => rx_k 1 (323, [(11, .int (s 1 9)), (0, .float 0), (1, .int tm), (2, .ref y), (3, .ref b), (4, .int st), (5, .int a), (6, .int i), (7, .int (D_X0_count 38 s1)), (10, .ref aw)], [.int (D_X0_count 38 s1), .int (D_X0_count 38 s1)]) (fun _ _ => rfl) hx) ?_
    refine ex_of (fun _ _ hx => rx_icF rfl (nf rfl) rfl hx) ?_
    refine ex_of (fun _ _ hx => rx_k 2 (329, [(11, .int (s 1 9)), (0, .float 0), (1, .int tm), (2, .ref y), (3, .ref b), (4, .int st), (5, .int a), (6, .int i), (7, .int (D_X0_count 38 s1)), (10, .ref aw)], [.ref aw, .ref b]) (fun _ _ => rfl) hx) ?_
    refine ex_of (fun _ _ hx => rx_inv rfl rfl p3 rfl rfl rfl rfl rfl rfl hx) ?_
    refine ex_of (fun _ _ hx => rx_ifF rfl (bf (by decide)) rfl hx) ?_
    refine ex_of (fun _ _ hx => rx_k 3 (339, [(11, .int (s 1 9)), (0, .float 0), (1, .int tm), (2, .ref y), (3, .ref b), (4, .int st), (5, .int a), (6, .int i), (7, .int (D_X0_count 38 s1)), (10, .ref aw)], [.int 3, .int (s 1 9), .ref b]) (fun _ _ => rfl) hx) ?_
    refine ex_of (fun _ _ hx => rx_inv rfl rfl r5 rfl rfl rfl (q_recv (wg_0 p2.1.ok)) rfl rfl hx) ?_
    refine ex_of (fun _ _ hx => rx_k 1 (343, [(11, .int (s 1 9)), (0, .float 0), (1, .int tm), (2, .ref y), (3, .ref b), (4, .int st), (5, .int a), (6, .int i), (7, .int (D_X0_count 38 s1)), (10, .ref aw)], [.int (-1), .int (-1)]) (fun _ _ => rfl) hx) ?_
    refine ex_of (fun _ _ hx => rx_icT rfl (bt rfl) hx) ?_
    refine ex_of (fun _ _ hx => rx_lo am_law (lo := [(0, .float 0), (1, .int tm), (2, .ref y), (3, .ref b), (4, .int st), (5, .int a), (6, .int i), (7, .int (D_X0_count 38 s1)), (10, .ref aw)]) (List.forall_mem_cons.mpr ⟨List.mem_of_getElem? (i := 1) rfl, (List.forall_mem_cons.mpr ⟨List.mem_of_getElem? (i := 2) rfl, (List.forall_mem_cons.mpr ⟨List.mem_of_getElem? (i := 3) rfl, (List.forall_mem_cons.mpr ⟨List.mem_of_getElem? (i := 4) rfl, (List.forall_mem_cons.mpr ⟨List.mem_of_getElem? (i := 5) rfl, (List.forall_mem_cons.mpr ⟨List.mem_of_getElem? (i := 6) rfl, (List.forall_mem_cons.mpr ⟨List.mem_of_getElem? (i := 7) rfl, (List.forall_mem_cons.mpr ⟨List.mem_of_getElem? (i := 8) rfl, (List.forall_mem_cons.mpr ⟨List.mem_of_getElem? (i := 9) rfl, (fun _ h => absurd h List.not_mem_nil)⟩)⟩)⟩)⟩)⟩)⟩)⟩)⟩)⟩) rfl hx) ?_
    exact cont w2 wl2 H2 s2 x1 x2 p2 p6 p7
theorem seg_e (hf : Zf s0 s1 a i wl1 N) (hc : c ≤ 371) (h : Zw b y w wl H s k1 k2 m c e s0 s1 N aw) (cont : ∀ (w' wl' : Nat) (H' : List EC) (u s' : Sg) (j1 j2 : Nat), Zw b y w' wl' H' s' j1 j2 (m + 120) c e s0 s1 N aw → LK u a i s' wl' → D_X0_count 38 s' = D_X0_count 38 s1 → (D_X3_size 38 s') = D_X3_size 38 s1 → k1 ≤ j1 → k2 ≤ j2 → Ex sc g_law 10 (424, [(0, .float 0), (1, .int tm), (2, .ref y), (3, .ref b), (4, .int st), (5, .int a), (6, .int i), (7, .int (D_X0_count 38 s1)), (10, .ref aw)], []) (wd b w' wl' H' s', j1, j2) P) : Ex sc g_law 10 (348, [(0, .float 0), (1, .int tm), (2, .ref y), (3, .ref b), (4, .int st), (5, .int a), (6, .int i), (7, .int (D_X0_count 38 s1)), (10, .ref aw)], []) (wd b w wl H s, k1, k2) P := by
  obtain ⟨hY, hT, hW, hl⟩ := id h
  have hP := hY.ok
  have ra : rg a 20 := ⟨hf.2.2.2.1.1, by have := hf.2.2.2.1.2; omega⟩
  have e1 := (z_bounds (sc := sc) (wl := wl) (k1 := k1) (k2 := k2) hP hY.nn (r := 500) (Or.inl rfl)).1
  rw [hY.rl.1] at e1
  obtain ⟨w2, wl2, H2, s2, x1, x2, p1, p2, p3, p4, p5, p6, p7, p8, p9, p10⟩ := y_link5 (sc := sc) hY hc ra hf.2.2.2.2.1
  have e2 := (z_bounds (sc := sc) (wl := wl2) (k1 := x1) (k2 := x2) p2 p3 (r := 40) (Or.inr rfl)).1
  rw [p5] at e2
  have hZ : Zw b y w2 wl2 H2 (up (up s2 0 7 40) 0 8 9999) x1 x2 (m + 60) c e s0 s1 N aw := ⟨p6, hT.of (fun _ _ _ => rfl) (fun k j hk => p7 k j (by omega)), oc_link p10 hW, by
    rw [cl_cg2 (s := s2) (fun k j q1 q2 => by rw [up_ne (by omega), up_ne (by omega)]), p4]; decide⟩
  generalize up (up s2 0 7 40) 0 8 9999 = v at *
  obtain ⟨w3, wl3, H3, s3, z1, z2, r1, r2, r3, r4, r5, r6, r7⟩ := zw_link (sc := sc) hf hZ
  refine ex_of (fun _ _ hx => rx_k 2 (351, [(0, .float 0), (1, .int tm), (2, .ref y), (3, .ref b), (4, .int st), (5, .int a), (6, .int i), (7, .int (D_X0_count 38 s1)), (10, .ref aw)], [.int 11, .ref b]) (fun _ _ => rfl) hx) ?_
  refine ex_of (fun _ _ hx => rx_inv rfl rfl (z_many hP hY.nn mt_11 md_11) rfl rfl rfl (q_recv (wg_0 hP)) rfl rfl hx) ?_
  refine ex_of (fun _ _ hx => rx_k 4 (363, [(11, .int (D_X3_countLongs 38 s)), (0, .float 0), (1, .int tm), (2, .ref y), (3, .ref b), (4, .int st), (5, .int a), (6, .int i), (7, .int (D_X0_count 38 s1)), (10, .ref aw)], [.int 9999, .int 500, .ref b]) (fun _ _ => rfl) hx) ?_
  refine ex_of (fun _ _ hx => rx_inv rfl rfl e1 rfl rfl rfl (q_recv (wg_0 hP)) rfl rfl hx) ?_
  refine ex_of (fun _ _ hx => rx_k 4 (373, [(12, .int 40), (11, .int (D_X3_countLongs 38 s)), (0, .float 0), (1, .int tm), (2, .ref y), (3, .ref b), (4, .int st), (5, .int a), (6, .int i), (7, .int (D_X0_count 38 s1)), (10, .ref aw)], [.int i, .int a, .ref b]) (fun _ _ => rfl) hx) ?_
  refine ex_of (fun _ _ hx => rx_inv rfl rfl p1 rfl rfl rfl (q_recv (wg_0 hP)) rfl rfl hx) ?_
  refine ex_of (fun _ _ hx => rx_k 3 (380, [(12, .int 40), (11, .int (D_X3_countLongs 38 s)), (0, .float 0), (1, .int tm), (2, .ref y), (3, .ref b), (4, .int st), (5, .int a), (6, .int i), (7, .int (D_X0_count 38 s1)), (10, .ref aw)], [.int 11, .ref b]) (fun _ _ => rfl) hx) ?_
  refine ex_of (fun _ _ hx => rx_inv rfl rfl (z_many p2 p3 mt_11 (md_11.trans p4)) rfl rfl rfl (q_recv (wg_0 p2)) rfl rfl hx) ?_
  refine ex_of (fun _ _ hx => rx_k 1 (385, [(12, .int 40), (11, .int (D_X3_countLongs 38 s)), (0, .float 0), (1, .int tm), (2, .ref y), (3, .ref b), (4, .int st), (5, .int a), (6, .int i), (7, .int (D_X0_count 38 s1)), (10, .ref aw)], [.int (D_X3_countLongs 38 s), .int 0]) (fun _ _ => rfl) hx) ?_
  refine ex_of (fun _ _ hx => rx_icT rfl (bt (Int32.le_iff_toInt_le.mpr hl)) hx) ?_
  refine ex_of (fun _ _ hx => rx_k 3 (396, [(12, .int 40), (11, .int (D_X3_countLongs 38 s)), (0, .float 0), (1, .int tm), (2, .ref y), (3, .ref b), (4, .int st), (5, .int a), (6, .int i), (7, .int (D_X0_count 38 s1)), (10, .ref aw)], [.int 9999, .int 40, .ref b]) (fun _ _ => rfl) hx) ?_
  refine ex_of (fun _ _ hx => rx_inv rfl rfl e2 rfl rfl rfl (q_recv (wg_0 p2)) rfl rfl hx) ?_
  refine ex_of (fun _ _ hx => rx_k 4 (405, [(12, .int 40), (11, .int (D_X3_countLongs 38 s)), (0, .float 0), (1, .int tm), (2, .ref y), (3, .ref b), (4, .int st), (5, .int a), (6, .int i), (7, .int (D_X0_count 38 s1)), (10, .ref aw)], [.int i, .int a, .ref b]) (fun _ _ => rfl) hx) ?_
  refine ex_of (fun _ _ hx => rx_inv rfl rfl r1 rfl rfl rfl (q_recv (wg_0 p6.ok)) rfl rfl hx) ?_
  refine ex_of (fun _ _ hx => rx_k 1 (410, [(12, .int 40), (11, .int (D_X3_countLongs 38 s)), (0, .float 0), (1, .int tm), (2, .ref y), (3, .ref b), (4, .int st), (5, .int a), (6, .int i), (7, .int (D_X0_count 38 s1)), (10, .ref aw)], [.int (D_X0_count 38 s1), .int (D_X0_count 38 s1)]) (fun _ _ => rfl) hx) ?_
  refine ex_of (fun _ _ hx => rx_icF rfl (nf rfl) rfl hx) ?_
  refine ex_of (fun _ _ hx => rx_k 2 (416, [(12, .int 40), (11, .int (D_X3_countLongs 38 s)), (0, .float 0), (1, .int tm), (2, .ref y), (3, .ref b), (4, .int st), (5, .int a), (6, .int i), (7, .int (D_X0_count 38 s1)), (10, .ref aw)], [.ref aw, .ref b]) (fun _ _ => rfl) hx) ?_
  refine ex_of (fun _ _ hx => rx_inv rfl rfl r3 rfl rfl rfl rfl rfl rfl hx) ?_
  refine ex_of (fun _ _ hx => rx_ifT rfl (nt (by decide)) hx) ?_
  refine ex_of (fun _ _ hx => rx_lo am_law (lo := [(0, .float 0), (1, .int tm), (2, .ref y), (3, .ref b), (4, .int st), (5, .int a), (6, .int i), (7, .int (D_X0_count 38 s1)), (10, .ref aw)]) (List.forall_mem_cons.mpr ⟨List.mem_of_getElem? (i := 2) rfl, (List.forall_mem_cons.mpr ⟨List.mem_of_getElem? (i := 3) rfl, (List.forall_mem_cons.mpr ⟨List.mem_of_getElem? (i := 4) rfl, (List.forall_mem_cons.mpr ⟨List.mem_of_getElem? (i := 5) rfl, (List.forall_mem_cons.mpr ⟨List.mem_of_getElem? (i := 6) rfl, (List.forall_mem_cons.mpr ⟨List.mem_of_getElem? (i := 7) rfl, (List.forall_mem_cons.mpr ⟨List.mem_of_getElem? (i := 8) rfl, (List.forall_mem_cons.mpr ⟨List.mem_of_getElem? (i := 9) rfl, (List.forall_mem_cons.mpr ⟨List.mem_of_getElem? (i := 10) rfl, (fun _ h => absurd h List.not_mem_nil)⟩)⟩)⟩)⟩)⟩)⟩)⟩)⟩)⟩) rfl hx) ?_
  exact cont w3 wl3 H3 v s3 z1 z2 (r2.le (by omega) (Int.le_refl _)) r4 r5.n r5.pc.pl.e11 (by omega) (by omega)
end L3S
