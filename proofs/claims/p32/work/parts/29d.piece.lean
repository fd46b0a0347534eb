/-! a piece more -/
section Y4
variable {sc : Nat × (Nat → Int32)} {b w wl y : Nat} {H : List EC} {s : Sg} {k1 k2 m e : Nat} {c : Int}
theorem lib_of {t : Sg} (h : L0 s) (hf : ∀ i j, 23 ≤ i → t i j = s i j) : L0 t := by
  unfold L0
  rw [hf 23 13 (by decide), hf 23 14 (by decide), hf 23 15 (by decide)]
  exact ⟨h.1, h.2.1, h.2.2.1, fun j => by rw [hf _ _ (by decide)]; exact h.2.2.2.1 j, fun j => by rw [hf _ _ (by decide)]; exact h.2.2.2.2.1 j, fun j => by rw [hf _ _ (by decide)]; exact h.2.2.2.2.2.1 j, fun j => by rw [hf _ _ (by decide)]; exact h.2.2.2.2.2.2 j⟩
/-- what a piece more leaves of the yard -/
theorem yb_piece {t : Sg} {its : Int32} {dr : Int32} {aS aP aD aI : Nat} {rest : List Value} {nd : Nat} {dO dN : Nat → Int32} {H' : List EC} {j1 j2 : Nat} (h : Yb b y w wl H s k1 k2 m c e 5 5) (hi0 : 0 ≤ its.toInt) (h8 : (s 15 its.toNatClampNeg).toInt < 8)
    (hT : Ti (c + 12) t) (hf : ∀ i j, i < 15 ∨ 20 ≤ i → i ≠ 4 → t i j = s i j) (h15 : ∀ j, t 15 j = if j = its.toNatClampNeg then s 15 its.toNatClampNeg + 1 else s 15 j) (hN : NN t)
    (hP : WOK b w H') (hy : Oc b w H' y (yc b dr 5 aS aP aD aI rest)) (h0 : 0 ≤ dr.toInt) (h1 : dr.toInt ≤ m + 12) (hnd : nd ≤ e) (hDC : DC s nd dO dN) (hb1 : j1 ≤ m + 12) (hb2 : j2 ≤ 100 * (m + 12))
    (hS : Aa b w H' aS 3 (s 11 8).toInt.toNat (fun i r => Row1 b w H' r (s 12 i))) (hQ : Aa b w H' aP 4 (s 11 8).toInt.toNat (fun i r => Aa b w H' r 3 (if i = its.toNatClampNeg then (s 15 i).toInt.toNat + 1 else (s 15 i).toInt.toNat) (fun _ q => Row0 b w H' q))) (hD : Aa b w H' aD 3 nd (fun i r => Row2 b w H' r (dO i) (dN i))) (hI : Aa b w H' aI 3 (s 20 2).toInt.toNat (fun _ r => Row0 b w H' r)) :
    Yb b y w wl H' t j1 j2 (m + 12) (c + 12) e 5 5 := by
  have g23 : ∀ i j, 23 ≤ i → t i j = s i j := fun i j hi => hf i j (by omega) (by omega)
  have p0 := (h.ti.p8 its.toNatClampNeg).1
  have hi : (s 15 its.toNatClampNeg + 1).toInt = (s 15 its.toNatClampNeg).toInt + 1 := i_add1 (by omega)
  refine ⟨hP, h.w1, hN, hb1, hb2, hT, lib_of h.lib g23, by rw [g23 _ _ (by decide)]; exact h.lc, by rw [hf _ _ (by decide) (by decide), hf _ _ (by decide) (by decide)]; exact h.rl, by rw [hf _ _ (by decide) (by decide)]; exact h.o5, dr, aS, aP, aD, aI, rest, nd, dO, dN, hy, h0, by omega, hnd, hDC.of (fun o _ => hf _ _ (by decide) (by decide)), ?_, ?_, hD, ?_⟩
  · rw [hf 11 8 (by decide) (by decide)]
    exact aa_cg hS rfl (fun i r _ q => by rw [hf _ _ (by decide) (by decide)]; exact q)
  · rw [hf 11 8 (by decide) (by decide)]
    refine aa_cg hQ rfl (fun i r _ q => ?_)
    show Aa b w H' r 3 (t 15 i).toInt.toNat (fun _ q => Row0 b w H' q)
    rw [h15]
    by_cases ce : i = its.toNatClampNeg
    · rw [if_pos ce, hi]
      rw [if_pos ce, ce] at q
      exact aa_cg q (by omega) (fun _ _ _ z => z)
    · rw [if_neg ce]
      rw [if_neg ce] at q
      exact q
  · rw [hf 20 2 (by decide) (by decide)]; exact hI
theorem y_piece (hL : sc.1 ≤ 260) (hm : m ≤ 100000) (h : Yb b y w wl H s k1 k2 m c e 5 5) : ∃ (H' : List EC) (s' : Sg) (j1 j2 : Nat), Rc sc 7 204 [.ref y] (wd b w wl H s, k1, k2) (some (.int 1)) (wd b w wl H' s', j1, j2) ∧ Yb b y w wl H' s' j1 j2 (m + 12) (c + 12) e 5 5 ∧ k1 ≤ j1 ∧ k2 ≤ j2 ∧ (∀ i j, 23 ≤ i → s' i j = s i j) := by
  obtain ⟨dr, aS, aP, aD, aI, rest, nd, dO, dN, hy, h0, h1, hnd, hDC, hA⟩ := h.ya
  have hP := h.ok
  have ti := h.ti
  have b1 := h.b1; have b2 := h.b2; have ns0 := ti.ns0; have ns1 := ti.ns1
  have main : Ex sc g_X12_piece 6 (0, [(0, .ref y)], []) (wd b w wl H s, k1, k2) (fun o h' => o = some (.int 1) ∧ ∃ (H' : List EC) (s' : Sg) (j1 j2 : Nat), h' = (wd b w wl H' s', j1, j2) ∧ Yb b y w wl H' s' j1 j2 (m + 12) (c + 12) e 5 5 ∧ k1 ≤ j1 ∧ k2 ≤ j2 ∧ (∀ i j, 23 ≤ i → s' i j = s i j)) := by
    obtain ⟨vS, hS, lS, eS⟩ := id hA.1
    have hret : Yb b y w wl H s k1 k2 (m + 12) (c + 12) e 5 5 := h.le (by omega) (by omega) (by omega)
    refine ex_of (fun _ _ hx => rx_k 1 (1, [(0, .ref y)], [.ref y]) (fun _ _ => rfl) hx) ?_
    refine ex_of (fun _ _ hx => rx_getf rfl rfl (oc_wd hy) rfl hx) ?_
    refine ex_of (fun _ _ hx => rx_alen rfl rfl (oc_wd hS) rfl (show Int32.ofNat vS.length = s 11 8 by rw [lS]; exact ofn ns0) hx) ?_
    by_cases c0 : s 11 8 = 0
    · skip
      refine ex_of (fun _ _ hx => rx_ifF rfl (nf c0) rfl hx) ?_
      refine ex_of (fun _ _ hx => rx_k 1 (9, [(0, .ref y)], [.int 1]) (fun _ _ => rfl) hx) ?_
      exact ex_ri rfl ⟨rfl, H, s, k1, k2, rfl, hret, Nat.le_refl _, Nat.le_refl _, fun _ _ _ => rfl⟩
    · have hpos : 0 < (s 11 8).toInt := by
        have : (s 11 8).toInt ≠ 0 := fun q => c0 (Int32.toInt_inj.mp (q.trans (by decide)))
        omega
      refine ex_of (fun _ _ hx => rx_ifT rfl (nt c0) hx) ?_
      refine ex_of (fun _ _ hx => rx_k 2 (12, [(0, .ref y)], [.ref y, .ref y]) (fun _ _ => rfl) hx) ?_
      refine ex_of (fun _ _ hx => rx_getf rfl rfl (oc_wd hy) rfl hx) ?_
      refine ex_of (fun _ _ hx => rx_alen rfl rfl (oc_wd hS) rfl (show Int32.ofNat vS.length = s 11 8 by rw [lS]; exact ofn ns0) hx) ?_
      obtain ⟨its, G1, d1, its0, its1, hd1, hP1, hy1, ed1, hA1, hx1⟩ := yd (sc := sc) (wl := wl) (s := s) (k1 := k1) (k2 := k2) hL hP hy hA (by omega) (by omega) (n := (s 11 8)) hpos
      refine ex_of (fun _ _ hx => rx_inv rfl rfl hd1 rfl rfl rfl (q_recv (oc_wd hy)) rfl rfl hx) ?_
      refine ex_of (fun _ _ hx => rx_k 2 (21, [(1, .int its), (0, .ref y)], [.ref y]) (fun _ _ => rfl) hx) ?_
      refine ex_of (fun _ _ hx => rx_getf rfl rfl (oc_wd hy1) rfl hx) ?_
      refine ex_of (fun _ _ hx => rx_k 1 (25, [(1, .int its), (0, .ref y)], [.int its, .ref aP]) (fun _ _ => rfl) hx) ?_
      have hitn : ((its.toNatClampNeg : Nat) : Int) < (s 11 8).toInt := by rw [tn]; omega
      obtain ⟨vP, hPv, lP, eP⟩ := id hA1.2.1
      obtain ⟨rp, rp1, rp2⟩ := eP its.toNatClampNeg (by omega)
      obtain ⟨vq, hq, lq', eq'⟩ := rp2
      obtain ⟨p80, p81⟩ := ti.p8 its.toNatClampNeg
      refine ex_of (fun _ _ hx => rx_ald rfl rfl (oc_wd hPv) rfl (ev_at_of (n_lt its0) rfl rp1) hx) ?_
      refine ex_of (fun _ _ hx => rx_alen rfl rfl (oc_wd hq) rfl (show Int32.ofNat vq.length = s 15 its.toNatClampNeg by rw [lq']; exact ofn p80) hx) ?_
      refine ex_of (fun _ _ hx => rx_k 1 (29, [(1, .int its), (0, .ref y)], [.int 8, .int (s 15 its.toNatClampNeg)]) (fun _ _ => rfl) hx) ?_
      by_cases c8 : s 15 its.toNatClampNeg = 8
      · have hret2 : Yb b y w wl G1 s k1 k2 (m + 12) (c + 12) e 5 5 := ⟨hP1, h.w1, h.nn, by omega, by omega, h.ti.le (by omega), h.lib, h.lc, h.rl, h.o5, d1, aS, aP, aD, aI, rest, nd, dO, dN, hy1, by omega, by omega, hnd, hDC, hA1⟩
        refine ex_of (fun _ _ hx => rx_icF rfl (nf c8) rfl hx) ?_
        refine ex_of (fun _ _ hx => rx_k 1 (33, [(1, .int its), (0, .ref y)], [.int 1]) (fun _ _ => rfl) hx) ?_
        exact ex_ri rfl ⟨rfl, G1, s, k1, k2, rfl, hret2, Nat.le_refl _, Nat.le_refl _, fun _ _ _ => rfl⟩
      · have h8 : (s 15 its.toNatClampNeg).toInt < 8 := by
          have : (s 15 its.toNatClampNeg).toInt ≠ 8 := fun q => c8 (Int32.toInt_inj.mp (q.trans (by decide)))
          omega
        refine ex_of (fun _ _ hx => rx_icT rfl (nt c8) hx) ?_
        refine ex_of (fun _ _ hx => rx_k 2 (37, [(1, .int its), (0, .ref y)], [.int 8, .ref y]) (fun _ _ => rfl) hx) ?_
        obtain ⟨nm, G2, d2, nm0, nm1, hd2, hP2, hy2, ed2, hA2, hx2⟩ := yd (sc := sc) (wl := wl) (s := s) (k1 := k1) (k2 := k2) hL hP1 hy1 hA1 (by omega) (by omega) (n := 8) (by decide)
        have nm1 : nm.toInt < 8 := nm1
        refine ex_of (fun _ _ hx => rx_inv rfl rfl hd2 rfl rfl rfl (q_recv (oc_wd hy1)) rfl rfl hx) ?_
        refine ex_of (fun _ _ hx => rx_k 3 (43, [(2, .int nm), (1, .int its), (0, .ref y)], [.int 5, .ref y]) (fun _ _ => rfl) hx) ?_
        obtain ⟨wq, G3, d3, wq0, wq1, hd3, hP3, hy3, ed3, hA3, hx3⟩ := yd (sc := sc) (wl := wl) (s := s) (k1 := k1) (k2 := k2) hL hP2 hy2 hA2 (by omega) (by omega) (n := 5) (by decide)
        have wq1 : wq.toInt < 5 := wq1
        refine ex_of (fun _ _ hx => rx_inv rfl rfl hd3 rfl rfl rfl (q_recv (oc_wd hy2)) rfl rfl hx) ?_
        have hk : ∃ wk : Int32, bz wk = true ∧ (wk = 1 ∨ wk = 0) ∧ ((wq = 0 ∧ wk = 1) ∨ (¬ wq = 0 ∧ wk = 0)) := by
          by_cases c1 : wq = 0
          · exact ⟨1, rfl, Or.inl rfl, Or.inl ⟨c1, rfl⟩⟩
          · exact ⟨0, rfl, Or.inr rfl, Or.inr ⟨c1, rfl⟩⟩
        obtain ⟨wk, hkz, hk01, hk⟩ := hk
        have hj : ∀ P, Ex sc g_X12_piece 6 (54, [(2, .int nm), (1, .int its), (0, .ref y)], [.int wk]) (wd b w wl G3 s, k1, k2) P → Ex sc g_X12_piece 6 (46, [(2, .int nm), (1, .int its), (0, .ref y)], [.int wq]) (wd b w wl G3 s, k1, k2) P := fun P hx => by
          rcases hk with ⟨c1, rfl⟩ | ⟨c1, rfl⟩
          · refine ex_of (fun _ _ hx => rx_ifF rfl (nf c1) rfl hx) ?_
            refine ex_of (fun _ _ hx => rx_k 2 (54, [(2, .int nm), (1, .int its), (0, .ref y)], [.int 1]) (fun _ _ => rfl) hx) ?_
            exact hx
          · refine ex_of (fun _ _ hx => rx_ifT rfl (nt c1) hx) ?_
            refine ex_of (fun _ _ hx => rx_k 1 (54, [(2, .int nm), (1, .int its), (0, .ref y)], [.int 0]) (fun _ _ => rfl) hx) ?_
            exact hx
        refine hj _ ?_
        refine ex_of (fun _ _ hx => rx_k 3 (57, [(3, .int wk), (2, .int nm), (1, .int its), (0, .ref y)], [.int 3, .ref y]) (fun _ _ => rfl) hx) ?_
        obtain ⟨kd, G4, d4, kd0, kd1, hd4, hP4, hy4, ed4, hA4, hx4⟩ := yd (sc := sc) (wl := wl) (s := s) (k1 := k1) (k2 := k2) hL hP3 hy3 hA3 (by omega) (by omega) (n := 3) (by decide)
        have kd1 : kd.toInt < 3 := kd1
        refine ex_of (fun _ _ hx => rx_inv rfl rfl hd4 rfl rfl rfl (q_recv (oc_wd hy3)) rfl rfl hx) ?_
        refine ex_of (fun _ _ hx => rx_k 4 (66, [(4, .int kd), (3, .int wk), (2, .int nm), (1, .int its), (0, .ref y)], [.int 12, .ref y, .int 1]) (fun _ _ => rfl) hx) ?_
        obtain ⟨wo, G5, d5, wo0, wo1, hd5, hP5, hy5, ed5, hA5, hx5⟩ := yd (sc := sc) (wl := wl) (s := s) (k1 := k1) (k2 := k2) hL hP4 hy4 hA4 (by omega) (by omega) (n := 12) (by decide)
        have wo1 : wo.toInt < 12 := wo1
        refine ex_of (fun _ _ hx => rx_inv rfl rfl hd5 rfl rfl rfl (q_recv (oc_wd hy4)) rfl rfl hx) ?_
        refine ex_of (fun _ _ hx => rx_k 4 (75, [(5, .int (1 + wo)), (4, .int kd), (3, .int wk), (2, .int nm), (1, .int its), (0, .ref y)], [.int 21, .ref y]) (fun _ _ => rfl) hx) ?_
        obtain ⟨ad, G6, d6, ad0, ad1, hd6, hP6, hy6, ed6, hA6, hx6⟩ := yd (sc := sc) (wl := wl) (s := s) (k1 := k1) (k2 := k2) hL hP5 hy5 hA5 (by omega) (by omega) (n := 21) (by decide)
        have ad1 : ad.toInt < 21 := ad1
        refine ex_of (fun _ _ hx => rx_inv rfl rfl hd6 rfl rfl rfl (q_recv (oc_wd hy5)) rfl rfl hx) ?_
        refine ex_of (fun _ _ hx => rx_k 4 (85, [(6, .int (ad - 10)), (5, .int (1 + wo)), (4, .int kd), (3, .int wk), (2, .int nm), (1, .int its), (0, .ref y)], [.int kd]) (fun _ _ => rfl) hx) ?_
        have ewo : (1 + wo).toInt = 1 + wo.toInt := by rw [Int32.toInt_add, show (1 : Int32).toInt = 1 from rfl, Int.bmod_eq_of_le (by omega) (by omega)]
        have ead : (ad - 10).toInt = ad.toInt - 10 := by rw [Int32.toInt_sub, show (10 : Int32).toInt = 10 from rfl, Int.bmod_eq_of_le (by omega) (by omega)]
        have hkd : kd = 0 ∨ kd = 1 ∨ kd = 2 := by
          obtain ⟨kk, hkk, rfl⟩ := q_small (⟨kd0, kd1⟩ : rg kd 3)
          have : kk = 0 ∨ kk = 1 ∨ kk = 2 := by omega
          rcases this with rfl | rfl | rfl
          · exact Or.inl rfl
          · exact Or.inr (Or.inl rfl)
          · exact Or.inr (Or.inr rfl)
        rcases hkd with rfl | rfl | rfl
        · skip
          refine ex_of (fun _ _ hx => rx_ifF rfl (nf rfl) rfl hx) ?_
          refine ex_of (fun _ _ hx => rx_k 1 (89, [(6, .int (ad - 10)), (5, .int (1 + wo)), (4, .int 0), (3, .int wk), (2, .int nm), (1, .int its), (0, .ref y)], [.ref y]) (fun _ _ => rfl) hx) ?_
          refine ex_of (fun _ _ hx => rx_getf rfl rfl (oc_wd hy6) rfl hx) ?_
          refine ex_of (fun _ _ hx => rx_k 2 (94, [(6, .int (ad - 10)), (5, .int (1 + wo)), (4, .int 0), (3, .int wk), (2, .int nm), (1, .int its), (0, .ref y)], [.ref y, .int its, .ref aP]) (fun _ _ => rfl) hx) ?_
          refine ex_of (fun _ _ hx => rx_getf rfl rfl (oc_wd hy6) rfl hx) ?_
          refine ex_of (fun _ _ hx => rx_k 1 (98, [(6, .int (ad - 10)), (5, .int (1 + wo)), (4, .int 0), (3, .int wk), (2, .int nm), (1, .int its), (0, .ref y)], [.int its, .ref aP, .int its, .ref aP]) (fun _ _ => rfl) hx) ?_
          obtain ⟨vP, hPv, lP, eP⟩ := id hA6.2.1
          obtain ⟨rp, rp1, rp2⟩ := eP its.toNatClampNeg (by omega)
          obtain ⟨vq, hq, lq', eq'⟩ := id rp2
          refine ex_of (fun _ _ hx => rx_ald rfl rfl (oc_wd hPv) rfl (ev_at_of (n_lt its0) rfl rp1) hx) ?_
          refine ex_of (fun _ _ hx => rx_k 1 (100, [(6, .int (ad - 10)), (5, .int (1 + wo)), (4, .int 0), (3, .int wk), (2, .int nm), (1, .int its), (0, .ref y)], [.int 4, .ref rp, .int its, .ref aP]) (fun _ _ => rfl) hx) ?_
          refine ex_of (fun _ _ hx => rx_newa (a := G6.length) (h1 := (wd b w wl (G6 ++ [(.inl 0, [.int 0, .int 0, .int 0, .int 0])]) s, (k1 + 1), (k2 + 4))) rfl rfl (by decide) rfl (congrArg (fun z => (z, (k1 + 1), (k2 + 4))) (wd_push hP6)) wd_len hx) ?_
          refine ex_of (fun _ _ hx => rx_k 3 (105, [(6, .int (ad - 10)), (5, .int (1 + wo)), (4, .int 0), (3, .int wk), (2, .int nm), (1, .int its), (0, .ref y)], [.int 0, .int 0, .ref G6.length, .ref G6.length, .ref rp, .int its, .ref aP]) (fun _ _ => rfl) hx) ?_
          refine ex_of (fun _ _ hx => rx_ist (h1 := (wd b w wl (G6 ++ [(.inl 0, [.int 0, .int 0, .int 0, .int 0])]) s, (k1 + 1), (k2 + 4))) rfl rfl (oc_wd (oc_top hP6)) rfl rfl (congrArg (fun z => (z, (k1 + 1), (k2 + 4))) (wd_top hP6)) hx) ?_
          refine ex_of (fun _ _ hx => rx_k 3 (110, [(6, .int (ad - 10)), (5, .int (1 + wo)), (4, .int 0), (3, .int wk), (2, .int nm), (1, .int its), (0, .ref y)], [.int (1 + wo), .int 1, .ref G6.length, .ref G6.length, .ref rp, .int its, .ref aP]) (fun _ _ => rfl) hx) ?_
          refine ex_of (fun _ _ hx => rx_ist (h1 := (wd b w wl (G6 ++ [(.inl 0, [.int 0, .int (1 + wo), .int 0, .int 0])]) s, (k1 + 1), (k2 + 4))) rfl rfl (oc_wd (oc_top hP6)) rfl rfl (congrArg (fun z => (z, (k1 + 1), (k2 + 4))) (wd_top hP6)) hx) ?_
          refine ex_of (fun _ _ hx => rx_k 3 (114, [(6, .int (ad - 10)), (5, .int (1 + wo)), (4, .int 0), (3, .int wk), (2, .int nm), (1, .int its), (0, .ref y)], [.int 0, .int 2, .ref G6.length, .ref G6.length, .ref rp, .int its, .ref aP]) (fun _ _ => rfl) hx) ?_
          refine ex_of (fun _ _ hx => rx_ist (h1 := (wd b w wl (G6 ++ [(.inl 0, [.int 0, .int (1 + wo), .int 0, .int 0])]) s, (k1 + 1), (k2 + 4))) rfl rfl (oc_wd (oc_top hP6)) rfl rfl (congrArg (fun z => (z, (k1 + 1), (k2 + 4))) (wd_top hP6)) hx) ?_
          refine ex_of (fun _ _ hx => rx_k 3 (118, [(6, .int (ad - 10)), (5, .int (1 + wo)), (4, .int 0), (3, .int wk), (2, .int nm), (1, .int its), (0, .ref y)], [.int 0, .int 3, .ref G6.length, .ref G6.length, .ref rp, .int its, .ref aP]) (fun _ _ => rfl) hx) ?_
          refine ex_of (fun _ _ hx => rx_ist (h1 := (wd b w wl (G6 ++ [(.inl 0, [.int 0, .int (1 + wo), .int 0, .int 0])]) s, (k1 + 1), (k2 + 4))) rfl rfl (oc_wd (oc_top hP6)) rfl rfl (congrArg (fun z => (z, (k1 + 1), (k2 + 4))) (wd_top hP6)) hx) ?_
          have hxr := xt_push (x := 9) (b := b) (w := w) (H := G6) (d := ((.inl 0, [.int 0, .int (1 + wo), .int 0, .int 0]) : EC))
          have hr7 : Oc b w (G6 ++ [(.inl 0, [.int 0, .int (1 + wo), .int 0, .int 0])]) G6.length (.inl 0, [.int 0, .int (1 + wo), .int 0, .int 0]) := oc_top hP6
          have hP7 := wok_push (c := ((.inl 0, [.int 0, .int (1 + wo), .int 0, .int 0]) : EC)) hP6
          have hy7 := oc_push (d := ((.inl 0, [.int 0, .int (1 + wo), .int 0, .int 0]) : EC)) hy6
          have hA7 := ya_xt (xt_push (x := 9) (d := ((.inl 0, [.int 0, .int (1 + wo), .int 0, .int 0]) : EC))) hA6
          generalize G6 ++ [(.inl 0, [.int 0, .int (1 + wo), .int 0, .int 0])] = G7 at *
          obtain ⟨vP2, hPv2, lP2, eP2⟩ := id hA7.2.1
          have hq2 := hxr _ _ _ (by decide) hq
          have hAq : Aa b w G7 rp 3 (s 15 its.toNatClampNeg).toInt.toNat (fun _ u => Row0 b w G7 u) := aa_xt (by decide) hxr rp2 (fun _ u r => row0_xt (by decide) hxr r)
          obtain ⟨G8, j8, q8, hw8, ej8, ek8, el8, hP8, hx8, hoc8, hN8⟩ := yw (sc := sc) (wl := wl) (s := s) (k1 := (k1 + 1)) (k2 := (k2 + 4)) (Or.inl ⟨rfl, rfl, rfl⟩) hP7 hAq (by omega) (fun _ z q => q) hr7
          refine ex_of (fun _ _ hx => rx_inv rfl rfl hw8 rfl rfl rfl rfl rfl rfl hx) ?_
          have hy8 := hoc8 _ _ hy7
          have hA8 := ya_xt hx8 hA7
          have hrr8 := hoc8 _ _ hr7
          have hN28 : Aa b w G8 G7.length 3 ((s 15 its.toNatClampNeg).toInt.toNat + 1) (fun _ u => Row0 b w G8 u) := aa_cg hN8 rfl (fun a z _ q => by
            rcases q with ⟨_, q2⟩ | ⟨_, q2⟩
            · exact row0_xt (by decide) hx8 q2
            · exact ⟨_, q2 ▸ hrr8⟩)
          have hPv3 := hx8 _ _ _ (by decide) (hxr _ _ _ (by decide) hPv)
          generalize G7.length = aN at *
          obtain ⟨vn, hn1, _, _⟩ := id hN28
          have hset9 : ((wd b w wl G8 s).set aP (.inl 4, vP.set its.toNatClampNeg (.ref aN)), j8, q8) = (wd b w wl (G8.set aP (.inl 4, vP.set its.toNatClampNeg (.ref aN))) s, j8, q8) := congrArg (fun z => (z, j8, q8)) (wd_oset hP8 hPv3.1)
          refine ex_of (fun _ _ hx => rx_ast rfl rfl (oc_wd hPv3) (oc_wd hn1) rfl (ev_at_of (n_lt its0) rfl rp1) hset9 hx) ?_
          have hx4 : Xt 4 b w G8 w (G8.set aP (.inl 4, vP.set its.toNatClampNeg (.ref aN))) := xt_arr hPv3
          have hPk := wok_set (a := aP) (c := ((.inl 4, vP.set its.toNatClampNeg (.ref aN)) : EC)) hP8
          have hyk : Oc b w (G8.set aP (.inl 4, vP.set its.toNatClampNeg (.ref aN))) y (yc b d6 5 aS aP aD aI rest) := oc_set hy8 (fun q => by
            have z1 := hPv3.2
            rw [q] at z1
            cases (z1.symm.trans hy8.2))
          have hPn : Oc b w (G8.set aP (.inl 4, vP.set its.toNatClampNeg (.ref aN))) aP (.inl 4, vP.set its.toNatClampNeg (.ref aN)) := oc_self hPv3
          have hSk : Aa b w (G8.set aP (.inl 4, vP.set its.toNatClampNeg (.ref aN))) aS 3 (s 11 8).toInt.toNat (fun i r => Row1 b w (G8.set aP (.inl 4, vP.set its.toNatClampNeg (.ref aN))) r (s 12 i)) := aa_xt (by decide) hx4 hA8.1 (fun i r q => row1_xt (by decide) hx4 q)
          have hDk : Aa b w (G8.set aP (.inl 4, vP.set its.toNatClampNeg (.ref aN))) aD 3 nd (fun i r => Row2 b w (G8.set aP (.inl 4, vP.set its.toNatClampNeg (.ref aN))) r (dO i) (dN i)) := aa_xt (by decide) hx4 hA8.2.2.1 (fun i r q => row2_xt (by decide) hx4 q)
          have hIk : Aa b w (G8.set aP (.inl 4, vP.set its.toNatClampNeg (.ref aN))) aI 3 (s 20 2).toInt.toNat (fun _ r => Row0 b w (G8.set aP (.inl 4, vP.set its.toNatClampNeg (.ref aN))) r) := aa_xt (by decide) hx4 hA8.2.2.2 (fun i r q => row0_xt (by decide) hx4 q)
          have hxq : Xt 9 b w G6 w G8 := xt_trans hxr hx8
          have hNk : Aa b w (G8.set aP (.inl 4, vP.set its.toNatClampNeg (.ref aN))) aN 3 ((s 15 its.toNatClampNeg).toInt.toNat + 1) (fun _ u => Row0 b w (G8.set aP (.inl 4, vP.set its.toNatClampNeg (.ref aN))) u) := aa_xt (by decide) hx4 hN28 (fun _ u r => row0_xt (by decide) hx4 r)
          have hQk : Aa b w (G8.set aP (.inl 4, vP.set its.toNatClampNeg (.ref aN))) aP 4 (s 11 8).toInt.toNat (fun a z => Aa b w (G8.set aP (.inl 4, vP.set its.toNatClampNeg (.ref aN))) z 3 (if a = its.toNatClampNeg then (s 15 a).toInt.toNat + 1 else (s 15 a).toInt.toNat) (fun _ u => Row0 b w (G8.set aP (.inl 4, vP.set its.toNatClampNeg (.ref aN))) u)) := by
            refine ⟨_, hPn, by rw [List.length_set]; exact lP, fun a ha => ?_⟩
            by_cases ce : a = its.toNatClampNeg
            · refine ⟨aN, by rw [ce]; exact List.getElem?_set_self (by omega), ?_⟩
              show Aa b w _ aN 3 (if a = its.toNatClampNeg then (s 15 a).toInt.toNat + 1 else (s 15 a).toInt.toNat) _
              rw [if_pos ce, ce]; exact hNk
            · obtain ⟨z, z1, z2⟩ := eP a ha
              refine ⟨z, by rw [List.getElem?_set_ne (fun q => ce q.symm)]; exact z1, ?_⟩
              show Aa b w _ z 3 (if a = its.toNatClampNeg then (s 15 a).toInt.toNat + 1 else (s 15 a).toInt.toNat) _
              rw [if_neg ce]
              exact aa_xt (by decide) hx4 (aa_xt (by decide) hxq z2 (fun _ u r => row0_xt (by decide) hxq r)) (fun _ u r => row0_xt (by decide) hx4 r)
          generalize G8.set aP (.inl 4, vP.set its.toNatClampNeg (.ref aN)) = GG at *
          refine ex_of (fun _ _ hx => rx_k 2 (174, [(6, .int (ad - 10)), (5, .int (1 + wo)), (4, .int 0), (3, .int wk), (2, .int nm), (1, .int its), (0, .ref y)], [.int 0]) (fun _ _ => rfl) hx) ?_
          refine ex_of (fun _ _ hx => rx_ifF rfl (nf rfl) rfl hx) ?_
          refine ex_of (fun _ _ hx => rx_k 1 (178, [(6, .int (ad - 10)), (5, .int (1 + wo)), (4, .int 0), (3, .int wk), (2, .int nm), (1, .int its), (0, .ref y)], [.ref y]) (fun _ _ => rfl) hx) ?_
          refine ex_of (fun _ _ hx => rx_getf rfl rfl (oc_wd hyk) rfl hx) ?_
          refine ex_of (fun _ _ hx => rx_k 2 (184, [(6, .int (ad - 10)), (5, .int (1 + wo)), (4, .int 0), (3, .int wk), (2, .int nm), (1, .int its), (0, .ref y)], [.int (1 + wo), .int its, .ref b]) (fun _ _ => rfl) hx) ?_
          obtain ⟨tT, t, tD, tI, tf, t15⟩ := t_fill ti its0 its1 h8 (v := 1 + wo) (by omega) (by omega)
          have hcall := rc_X11_fill (sc := sc) (wl := wl) (kn := (j8, q8)) hPk h.nn tT
          have hNN := nn_X11_fill (a1 := its) (a2 := 1 + wo) h.nn
          rw [tD] at hcall hNN
          refine ex_of (fun _ _ hx => rx_inv rfl rfl hcall rfl rfl rfl (q_recv (wg_0 hPk)) rfl rfl hx) ?_
          have hYb : Yb b y w wl GG t j8 q8 (m + 12) (c + 12) e 5 5 := yb_piece (dr := d6) h its0 h8 tI tf t15 hNN hPk hyk (by omega) (by omega) hnd hDC (by omega) (by omega) hSk hQk hDk hIk
          obtain ⟨vF, hF, lF, eF⟩ := id hQk
          obtain ⟨rf, rf1, rf2⟩ := eF its.toNatClampNeg (by omega)
          have rf2 : Aa b w GG rf 3 (if its.toNatClampNeg = its.toNatClampNeg then (s 15 its.toNatClampNeg).toInt.toNat + 1 else (s 15 its.toNatClampNeg).toInt.toNat) (fun _ u => Row0 b w GG u) := rf2
          rw [if_pos rfl] at rf2
          obtain ⟨vg, hg, lg, eg⟩ := rf2
          have hi15 : (s 15 its.toNatClampNeg + 1).toInt = (s 15 its.toNatClampNeg).toInt + 1 := i_add1 (by omega)
          refine ex_of (fun _ _ hx => rx_k 4 (244, [(7, .int (s 15 its.toNatClampNeg)), (6, .int (ad - 10)), (5, .int (1 + wo)), (4, .int 0), (3, .int wk), (2, .int nm), (1, .int its), (0, .ref y)], [.ref y, .int (s 15 its.toNatClampNeg)]) (fun _ _ => rfl) hx) ?_
          refine ex_of (fun _ _ hx => rx_getf rfl rfl (oc_wd hyk) rfl hx) ?_
          refine ex_of (fun _ _ hx => rx_k 1 (248, [(7, .int (s 15 its.toNatClampNeg)), (6, .int (ad - 10)), (5, .int (1 + wo)), (4, .int 0), (3, .int wk), (2, .int nm), (1, .int its), (0, .ref y)], [.int its, .ref aP, .int (s 15 its.toNatClampNeg)]) (fun _ _ => rfl) hx) ?_
          refine ex_of (fun _ _ hx => rx_ald rfl rfl (oc_wd hF) rfl (ev_at_of (n_lt its0) rfl rf1) hx) ?_
          refine ex_of (fun _ _ hx => rx_alen rfl rfl (oc_wd hg) rfl (show Int32.ofNat vg.length = s 15 its.toNatClampNeg + 1 by rw [lg, ← ofn (x := s 15 its.toNatClampNeg + 1) (by omega), hi15]; congr 1; omega) hx) ?_
          refine ex_of (fun _ _ hx => rx_k 2 (252, [(7, .int (s 15 its.toNatClampNeg)), (6, .int (ad - 10)), (5, .int (1 + wo)), (4, .int 0), (3, .int wk), (2, .int nm), (1, .int its), (0, .ref y)], [.int ((s 15 its.toNatClampNeg + 1) - 1), .int (s 15 its.toNatClampNeg)]) (fun _ _ => rfl) hx) ?_
          refine ex_of (fun _ _ hx => rx_icF rfl (nf (Int32.add_sub_cancel _ _).symm) rfl hx) ?_
          refine ex_of (fun _ _ hx => rx_k 2 (260, [(7, .int (s 15 its.toNatClampNeg)), (6, .int (ad - 10)), (5, .int (1 + wo)), (4, .int 0), (3, .int wk), (2, .int nm), (1, .int its), (0, .ref y)], [.int 1]) (fun _ _ => rfl) hx) ?_
          exact ex_ri rfl ⟨rfl, GG, t, j8, q8, rfl, hYb, by omega, by omega, fun i j hi => tf i j (by omega) (by omega)⟩
        · skip
          refine ex_of (fun _ _ hx => rx_ifT rfl (nt (by decide)) hx) ?_
          refine ex_of (fun _ _ hx => rx_k 1 (127, [(6, .int (ad - 10)), (5, .int (1 + wo)), (4, .int 1), (3, .int wk), (2, .int nm), (1, .int its), (0, .ref y)], [.ref y]) (fun _ _ => rfl) hx) ?_
          refine ex_of (fun _ _ hx => rx_getf rfl rfl (oc_wd hy6) rfl hx) ?_
          refine ex_of (fun _ _ hx => rx_k 2 (132, [(6, .int (ad - 10)), (5, .int (1 + wo)), (4, .int 1), (3, .int wk), (2, .int nm), (1, .int its), (0, .ref y)], [.ref y, .int its, .ref aP]) (fun _ _ => rfl) hx) ?_
          refine ex_of (fun _ _ hx => rx_getf rfl rfl (oc_wd hy6) rfl hx) ?_
          refine ex_of (fun _ _ hx => rx_k 1 (136, [(6, .int (ad - 10)), (5, .int (1 + wo)), (4, .int 1), (3, .int wk), (2, .int nm), (1, .int its), (0, .ref y)], [.int its, .ref aP, .int its, .ref aP]) (fun _ _ => rfl) hx) ?_
          obtain ⟨vP, hPv, lP, eP⟩ := id hA6.2.1
          obtain ⟨rp, rp1, rp2⟩ := eP its.toNatClampNeg (by omega)
          obtain ⟨vq, hq, lq', eq'⟩ := id rp2
          refine ex_of (fun _ _ hx => rx_ald rfl rfl (oc_wd hPv) rfl (ev_at_of (n_lt its0) rfl rp1) hx) ?_
          refine ex_of (fun _ _ hx => rx_k 1 (138, [(6, .int (ad - 10)), (5, .int (1 + wo)), (4, .int 1), (3, .int wk), (2, .int nm), (1, .int its), (0, .ref y)], [.int 4, .ref rp, .int its, .ref aP]) (fun _ _ => rfl) hx) ?_
          refine ex_of (fun _ _ hx => rx_newa (a := G6.length) (h1 := (wd b w wl (G6 ++ [(.inl 0, [.int 0, .int 0, .int 0, .int 0])]) s, (k1 + 1), (k2 + 4))) rfl rfl (by decide) rfl (congrArg (fun z => (z, (k1 + 1), (k2 + 4))) (wd_push hP6)) wd_len hx) ?_
          refine ex_of (fun _ _ hx => rx_k 3 (144, [(6, .int (ad - 10)), (5, .int (1 + wo)), (4, .int 1), (3, .int wk), (2, .int nm), (1, .int its), (0, .ref y)], [.int 1, .int 0, .ref G6.length, .ref G6.length, .ref rp, .int its, .ref aP]) (fun _ _ => rfl) hx) ?_
          refine ex_of (fun _ _ hx => rx_ist (h1 := (wd b w wl (G6 ++ [(.inl 0, [.int 1, .int 0, .int 0, .int 0])]) s, (k1 + 1), (k2 + 4))) rfl rfl (oc_wd (oc_top hP6)) rfl rfl (congrArg (fun z => (z, (k1 + 1), (k2 + 4))) (wd_top hP6)) hx) ?_
          refine ex_of (fun _ _ hx => rx_k 3 (148, [(6, .int (ad - 10)), (5, .int (1 + wo)), (4, .int 1), (3, .int wk), (2, .int nm), (1, .int its), (0, .ref y)], [.int nm, .int 1, .ref G6.length, .ref G6.length, .ref rp, .int its, .ref aP]) (fun _ _ => rfl) hx) ?_
          refine ex_of (fun _ _ hx => rx_ist (h1 := (wd b w wl (G6 ++ [(.inl 0, [.int 1, .int nm, .int 0, .int 0])]) s, (k1 + 1), (k2 + 4))) rfl rfl (oc_wd (oc_top hP6)) rfl rfl (congrArg (fun z => (z, (k1 + 1), (k2 + 4))) (wd_top hP6)) hx) ?_
          refine ex_of (fun _ _ hx => rx_k 4 (154, [(6, .int (ad - 10)), (5, .int (1 + wo)), (4, .int 1), (3, .int wk), (2, .int nm), (1, .int its), (0, .ref y)], [.int 1, .int 1, .int 2, .ref G6.length, .ref G6.length, .ref rp, .int its, .ref aP]) (fun _ _ => rfl) hx) ?_
          refine ex_of (fun _ _ hx => rx_icF rfl (nf rfl) rfl hx) ?_
          refine ex_of (fun _ _ hx => rx_k 2 (163, [(6, .int (ad - 10)), (5, .int (1 + wo)), (4, .int 1), (3, .int wk), (2, .int nm), (1, .int its), (0, .ref y)], [.int (ad - 10), .int 2, .ref G6.length, .ref G6.length, .ref rp, .int its, .ref aP]) (fun _ _ => rfl) hx) ?_
          refine ex_of (fun _ _ hx => rx_ist (h1 := (wd b w wl (G6 ++ [(.inl 0, [.int 1, .int nm, .int (ad - 10), .int 0])]) s, (k1 + 1), (k2 + 4))) rfl rfl (oc_wd (oc_top hP6)) rfl rfl (congrArg (fun z => (z, (k1 + 1), (k2 + 4))) (wd_top hP6)) hx) ?_
          refine ex_of (fun _ _ hx => rx_k 3 (167, [(6, .int (ad - 10)), (5, .int (1 + wo)), (4, .int 1), (3, .int wk), (2, .int nm), (1, .int its), (0, .ref y)], [.int wk, .int 3, .ref G6.length, .ref G6.length, .ref rp, .int its, .ref aP]) (fun _ _ => rfl) hx) ?_
          refine ex_of (fun _ _ hx => rx_ist (h1 := (wd b w wl (G6 ++ [(.inl 0, [.int 1, .int nm, .int (ad - 10), .int wk])]) s, (k1 + 1), (k2 + 4))) rfl rfl (oc_wd (oc_top hP6)) rfl rfl (congrArg (fun z => (z, (k1 + 1), (k2 + 4))) (wd_top hP6)) hx) ?_
          have hxr := xt_push (x := 9) (b := b) (w := w) (H := G6) (d := ((.inl 0, [.int 1, .int nm, .int (ad - 10), .int wk]) : EC))
          have hr10 : Oc b w (G6 ++ [(.inl 0, [.int 1, .int nm, .int (ad - 10), .int wk])]) G6.length (.inl 0, [.int 1, .int nm, .int (ad - 10), .int wk]) := oc_top hP6
          have hP10 := wok_push (c := ((.inl 0, [.int 1, .int nm, .int (ad - 10), .int wk]) : EC)) hP6
          have hy10 := oc_push (d := ((.inl 0, [.int 1, .int nm, .int (ad - 10), .int wk]) : EC)) hy6
          have hA10 := ya_xt (xt_push (x := 9) (d := ((.inl 0, [.int 1, .int nm, .int (ad - 10), .int wk]) : EC))) hA6
          generalize G6 ++ [(.inl 0, [.int 1, .int nm, .int (ad - 10), .int wk])] = G10 at *
          obtain ⟨vP2, hPv2, lP2, eP2⟩ := id hA10.2.1
          have hq2 := hxr _ _ _ (by decide) hq
          have hAq : Aa b w G10 rp 3 (s 15 its.toNatClampNeg).toInt.toNat (fun _ u => Row0 b w G10 u) := aa_xt (by decide) hxr rp2 (fun _ u r => row0_xt (by decide) hxr r)
          obtain ⟨G11, j11, q11, hw11, ej11, ek11, el11, hP11, hx11, hoc11, hN11⟩ := yw (sc := sc) (wl := wl) (s := s) (k1 := (k1 + 1)) (k2 := (k2 + 4)) (Or.inl ⟨rfl, rfl, rfl⟩) hP10 hAq (by omega) (fun _ z q => q) hr10
          refine ex_of (fun _ _ hx => rx_inv rfl rfl hw11 rfl rfl rfl rfl rfl rfl hx) ?_
          have hy11 := hoc11 _ _ hy10
          have hA11 := ya_xt hx11 hA10
          have hrr11 := hoc11 _ _ hr10
          have hN211 : Aa b w G11 G10.length 3 ((s 15 its.toNatClampNeg).toInt.toNat + 1) (fun _ u => Row0 b w G11 u) := aa_cg hN11 rfl (fun a z _ q => by
            rcases q with ⟨_, q2⟩ | ⟨_, q2⟩
            · exact row0_xt (by decide) hx11 q2
            · exact ⟨_, q2 ▸ hrr11⟩)
          have hPv3 := hx11 _ _ _ (by decide) (hxr _ _ _ (by decide) hPv)
          generalize G10.length = aN at *
          obtain ⟨vn, hn1, _, _⟩ := id hN211
          have hset12 : ((wd b w wl G11 s).set aP (.inl 4, vP.set its.toNatClampNeg (.ref aN)), j11, q11) = (wd b w wl (G11.set aP (.inl 4, vP.set its.toNatClampNeg (.ref aN))) s, j11, q11) := congrArg (fun z => (z, j11, q11)) (wd_oset hP11 hPv3.1)
          refine ex_of (fun _ _ hx => rx_ast rfl rfl (oc_wd hPv3) (oc_wd hn1) rfl (ev_at_of (n_lt its0) rfl rp1) hset12 hx) ?_
          have hx4 : Xt 4 b w G11 w (G11.set aP (.inl 4, vP.set its.toNatClampNeg (.ref aN))) := xt_arr hPv3
          have hPk := wok_set (a := aP) (c := ((.inl 4, vP.set its.toNatClampNeg (.ref aN)) : EC)) hP11
          have hyk : Oc b w (G11.set aP (.inl 4, vP.set its.toNatClampNeg (.ref aN))) y (yc b d6 5 aS aP aD aI rest) := oc_set hy11 (fun q => by
            have z1 := hPv3.2
            rw [q] at z1
            cases (z1.symm.trans hy11.2))
          have hPn : Oc b w (G11.set aP (.inl 4, vP.set its.toNatClampNeg (.ref aN))) aP (.inl 4, vP.set its.toNatClampNeg (.ref aN)) := oc_self hPv3
          have hSk : Aa b w (G11.set aP (.inl 4, vP.set its.toNatClampNeg (.ref aN))) aS 3 (s 11 8).toInt.toNat (fun i r => Row1 b w (G11.set aP (.inl 4, vP.set its.toNatClampNeg (.ref aN))) r (s 12 i)) := aa_xt (by decide) hx4 hA11.1 (fun i r q => row1_xt (by decide) hx4 q)
          have hDk : Aa b w (G11.set aP (.inl 4, vP.set its.toNatClampNeg (.ref aN))) aD 3 nd (fun i r => Row2 b w (G11.set aP (.inl 4, vP.set its.toNatClampNeg (.ref aN))) r (dO i) (dN i)) := aa_xt (by decide) hx4 hA11.2.2.1 (fun i r q => row2_xt (by decide) hx4 q)
          have hIk : Aa b w (G11.set aP (.inl 4, vP.set its.toNatClampNeg (.ref aN))) aI 3 (s 20 2).toInt.toNat (fun _ r => Row0 b w (G11.set aP (.inl 4, vP.set its.toNatClampNeg (.ref aN))) r) := aa_xt (by decide) hx4 hA11.2.2.2 (fun i r q => row0_xt (by decide) hx4 q)
          have hxq : Xt 9 b w G6 w G11 := xt_trans hxr hx11
          have hNk : Aa b w (G11.set aP (.inl 4, vP.set its.toNatClampNeg (.ref aN))) aN 3 ((s 15 its.toNatClampNeg).toInt.toNat + 1) (fun _ u => Row0 b w (G11.set aP (.inl 4, vP.set its.toNatClampNeg (.ref aN))) u) := aa_xt (by decide) hx4 hN211 (fun _ u r => row0_xt (by decide) hx4 r)
          have hQk : Aa b w (G11.set aP (.inl 4, vP.set its.toNatClampNeg (.ref aN))) aP 4 (s 11 8).toInt.toNat (fun a z => Aa b w (G11.set aP (.inl 4, vP.set its.toNatClampNeg (.ref aN))) z 3 (if a = its.toNatClampNeg then (s 15 a).toInt.toNat + 1 else (s 15 a).toInt.toNat) (fun _ u => Row0 b w (G11.set aP (.inl 4, vP.set its.toNatClampNeg (.ref aN))) u)) := by
            refine ⟨_, hPn, by rw [List.length_set]; exact lP, fun a ha => ?_⟩
            by_cases ce : a = its.toNatClampNeg
            · refine ⟨aN, by rw [ce]; exact List.getElem?_set_self (by omega), ?_⟩
              show Aa b w _ aN 3 (if a = its.toNatClampNeg then (s 15 a).toInt.toNat + 1 else (s 15 a).toInt.toNat) _
              rw [if_pos ce, ce]; exact hNk
            · obtain ⟨z, z1, z2⟩ := eP a ha
              refine ⟨z, by rw [List.getElem?_set_ne (fun q => ce q.symm)]; exact z1, ?_⟩
              show Aa b w _ z 3 (if a = its.toNatClampNeg then (s 15 a).toInt.toNat + 1 else (s 15 a).toInt.toNat) _
              rw [if_neg ce]
              exact aa_xt (by decide) hx4 (aa_xt (by decide) hxq z2 (fun _ u r => row0_xt (by decide) hxq r)) (fun _ u r => row0_xt (by decide) hx4 r)
          generalize G11.set aP (.inl 4, vP.set its.toNatClampNeg (.ref aN)) = GG at *
          refine ex_of (fun _ _ hx => rx_k 1 (174, [(6, .int (ad - 10)), (5, .int (1 + wo)), (4, .int 1), (3, .int wk), (2, .int nm), (1, .int its), (0, .ref y)], [.int 1]) (fun _ _ => rfl) hx) ?_
          refine ex_of (fun _ _ hx => rx_ifT rfl (nt (by decide)) hx) ?_
          refine ex_of (fun _ _ hx => rx_k 2 (193, [(6, .int (ad - 10)), (5, .int (1 + wo)), (4, .int 1), (3, .int wk), (2, .int nm), (1, .int its), (0, .ref y)], [.int 1, .int 1]) (fun _ _ => rfl) hx) ?_
          refine ex_of (fun _ _ hx => rx_icF rfl (nf rfl) rfl hx) ?_
          refine ex_of (fun _ _ hx => rx_k 1 (197, [(6, .int (ad - 10)), (5, .int (1 + wo)), (4, .int 1), (3, .int wk), (2, .int nm), (1, .int its), (0, .ref y)], [.ref y]) (fun _ _ => rfl) hx) ?_
          refine ex_of (fun _ _ hx => rx_getf rfl rfl (oc_wd hyk) rfl hx) ?_
          refine ex_of (fun _ _ hx => rx_k 5 (206, [(6, .int (ad - 10)), (5, .int (1 + wo)), (4, .int 1), (3, .int wk), (2, .int nm), (1, .int its), (0, .ref y)], [.int 1, .int wk, .int (ad - 10), .int nm, .int its, .ref b]) (fun _ _ => rfl) hx) ?_
          obtain ⟨tT, t, tD, tI, tf, t15⟩ := t_word ti (w := wk) its0 its1 h8 nm0 nm1 (d := ad - 10) (by omega) (by omega)
          have hj2 : ∀ P, Ex sc g_X12_piece 6 (214, [(6, .int (ad - 10)), (5, .int (1 + wo)), (4, .int 1), (3, .int wk), (2, .int nm), (1, .int its), (0, .ref y)], [.int wk, .int (ad - 10), .int nm, .int its, .ref b]) (wd b w wl GG s, j11, q11) P → Ex sc g_X12_piece 6 (206, [(6, .int (ad - 10)), (5, .int (1 + wo)), (4, .int 1), (3, .int wk), (2, .int nm), (1, .int its), (0, .ref y)], [.int 1, .int wk, .int (ad - 10), .int nm, .int its, .ref b]) (wd b w wl GG s, j11, q11) P := fun P hx => by
            rcases hk01 with rfl | rfl
            · refine ex_of (fun _ _ hx => rx_icF rfl (nf rfl) rfl hx) ?_
              refine ex_of (fun _ _ hx => rx_k 2 (214, [(6, .int (ad - 10)), (5, .int (1 + wo)), (4, .int 1), (3, .int 1), (2, .int nm), (1, .int its), (0, .ref y)], [.int 1, .int (ad - 10), .int nm, .int its, .ref b]) (fun _ _ => rfl) hx) ?_
              exact hx
            · refine ex_of (fun _ _ hx => rx_icT rfl (nt (by decide)) hx) ?_
              refine ex_of (fun _ _ hx => rx_k 1 (214, [(6, .int (ad - 10)), (5, .int (1 + wo)), (4, .int 1), (3, .int 0), (2, .int nm), (1, .int its), (0, .ref y)], [.int 0, .int (ad - 10), .int nm, .int its, .ref b]) (fun _ _ => rfl) hx) ?_
              exact hx
          refine hj2 _ ?_
          have hcall := rc_X11_word (sc := sc) (wl := wl) (kn := (j11, q11)) hPk h.nn hkz tT
          have hNN := nn_X11_word (a1 := its) (a2 := nm) (a3 := ad - 10) (a4 := wk) h.nn
          rw [tD] at hcall hNN
          refine ex_of (fun _ _ hx => rx_inv rfl rfl hcall rfl rfl rfl (q_recv (wg_0 hPk)) rfl rfl hx) ?_
          have hYb : Yb b y w wl GG t j11 q11 (m + 12) (c + 12) e 5 5 := yb_piece (dr := d6) h its0 h8 tI tf t15 hNN hPk hyk (by omega) (by omega) hnd hDC (by omega) (by omega) hSk hQk hDk hIk
          obtain ⟨vF, hF, lF, eF⟩ := id hQk
          obtain ⟨rf, rf1, rf2⟩ := eF its.toNatClampNeg (by omega)
          have rf2 : Aa b w GG rf 3 (if its.toNatClampNeg = its.toNatClampNeg then (s 15 its.toNatClampNeg).toInt.toNat + 1 else (s 15 its.toNatClampNeg).toInt.toNat) (fun _ u => Row0 b w GG u) := rf2
          rw [if_pos rfl] at rf2
          obtain ⟨vg, hg, lg, eg⟩ := rf2
          have hi15 : (s 15 its.toNatClampNeg + 1).toInt = (s 15 its.toNatClampNeg).toInt + 1 := i_add1 (by omega)
          refine ex_of (fun _ _ hx => rx_k 4 (244, [(7, .int (s 15 its.toNatClampNeg)), (6, .int (ad - 10)), (5, .int (1 + wo)), (4, .int 1), (3, .int wk), (2, .int nm), (1, .int its), (0, .ref y)], [.ref y, .int (s 15 its.toNatClampNeg)]) (fun _ _ => rfl) hx) ?_
          refine ex_of (fun _ _ hx => rx_getf rfl rfl (oc_wd hyk) rfl hx) ?_
          refine ex_of (fun _ _ hx => rx_k 1 (248, [(7, .int (s 15 its.toNatClampNeg)), (6, .int (ad - 10)), (5, .int (1 + wo)), (4, .int 1), (3, .int wk), (2, .int nm), (1, .int its), (0, .ref y)], [.int its, .ref aP, .int (s 15 its.toNatClampNeg)]) (fun _ _ => rfl) hx) ?_
          refine ex_of (fun _ _ hx => rx_ald rfl rfl (oc_wd hF) rfl (ev_at_of (n_lt its0) rfl rf1) hx) ?_
          refine ex_of (fun _ _ hx => rx_alen rfl rfl (oc_wd hg) rfl (show Int32.ofNat vg.length = s 15 its.toNatClampNeg + 1 by rw [lg, ← ofn (x := s 15 its.toNatClampNeg + 1) (by omega), hi15]; congr 1; omega) hx) ?_
          refine ex_of (fun _ _ hx => rx_k 2 (252, [(7, .int (s 15 its.toNatClampNeg)), (6, .int (ad - 10)), (5, .int (1 + wo)), (4, .int 1), (3, .int wk), (2, .int nm), (1, .int its), (0, .ref y)], [.int ((s 15 its.toNatClampNeg + 1) - 1), .int (s 15 its.toNatClampNeg)]) (fun _ _ => rfl) hx) ?_
          refine ex_of (fun _ _ hx => rx_icF rfl (nf (Int32.add_sub_cancel _ _).symm) rfl hx) ?_
          refine ex_of (fun _ _ hx => rx_k 2 (260, [(7, .int (s 15 its.toNatClampNeg)), (6, .int (ad - 10)), (5, .int (1 + wo)), (4, .int 1), (3, .int wk), (2, .int nm), (1, .int its), (0, .ref y)], [.int 1]) (fun _ _ => rfl) hx) ?_
          exact ex_ri rfl ⟨rfl, GG, t, j11, q11, rfl, hYb, by omega, by omega, fun i j hi => tf i j (by omega) (by omega)⟩
        · skip
          refine ex_of (fun _ _ hx => rx_ifT rfl (nt (by decide)) hx) ?_
          refine ex_of (fun _ _ hx => rx_k 1 (127, [(6, .int (ad - 10)), (5, .int (1 + wo)), (4, .int 2), (3, .int wk), (2, .int nm), (1, .int its), (0, .ref y)], [.ref y]) (fun _ _ => rfl) hx) ?_
          refine ex_of (fun _ _ hx => rx_getf rfl rfl (oc_wd hy6) rfl hx) ?_
          refine ex_of (fun _ _ hx => rx_k 2 (132, [(6, .int (ad - 10)), (5, .int (1 + wo)), (4, .int 2), (3, .int wk), (2, .int nm), (1, .int its), (0, .ref y)], [.ref y, .int its, .ref aP]) (fun _ _ => rfl) hx) ?_
          refine ex_of (fun _ _ hx => rx_getf rfl rfl (oc_wd hy6) rfl hx) ?_
          refine ex_of (fun _ _ hx => rx_k 1 (136, [(6, .int (ad - 10)), (5, .int (1 + wo)), (4, .int 2), (3, .int wk), (2, .int nm), (1, .int its), (0, .ref y)], [.int its, .ref aP, .int its, .ref aP]) (fun _ _ => rfl) hx) ?_
          obtain ⟨vP, hPv, lP, eP⟩ := id hA6.2.1
          obtain ⟨rp, rp1, rp2⟩ := eP its.toNatClampNeg (by omega)
          obtain ⟨vq, hq, lq', eq'⟩ := id rp2
          refine ex_of (fun _ _ hx => rx_ald rfl rfl (oc_wd hPv) rfl (ev_at_of (n_lt its0) rfl rp1) hx) ?_
          refine ex_of (fun _ _ hx => rx_k 1 (138, [(6, .int (ad - 10)), (5, .int (1 + wo)), (4, .int 2), (3, .int wk), (2, .int nm), (1, .int its), (0, .ref y)], [.int 4, .ref rp, .int its, .ref aP]) (fun _ _ => rfl) hx) ?_
          refine ex_of (fun _ _ hx => rx_newa (a := G6.length) (h1 := (wd b w wl (G6 ++ [(.inl 0, [.int 0, .int 0, .int 0, .int 0])]) s, (k1 + 1), (k2 + 4))) rfl rfl (by decide) rfl (congrArg (fun z => (z, (k1 + 1), (k2 + 4))) (wd_push hP6)) wd_len hx) ?_
          refine ex_of (fun _ _ hx => rx_k 3 (144, [(6, .int (ad - 10)), (5, .int (1 + wo)), (4, .int 2), (3, .int wk), (2, .int nm), (1, .int its), (0, .ref y)], [.int 2, .int 0, .ref G6.length, .ref G6.length, .ref rp, .int its, .ref aP]) (fun _ _ => rfl) hx) ?_
          refine ex_of (fun _ _ hx => rx_ist (h1 := (wd b w wl (G6 ++ [(.inl 0, [.int 2, .int 0, .int 0, .int 0])]) s, (k1 + 1), (k2 + 4))) rfl rfl (oc_wd (oc_top hP6)) rfl rfl (congrArg (fun z => (z, (k1 + 1), (k2 + 4))) (wd_top hP6)) hx) ?_
          refine ex_of (fun _ _ hx => rx_k 3 (148, [(6, .int (ad - 10)), (5, .int (1 + wo)), (4, .int 2), (3, .int wk), (2, .int nm), (1, .int its), (0, .ref y)], [.int nm, .int 1, .ref G6.length, .ref G6.length, .ref rp, .int its, .ref aP]) (fun _ _ => rfl) hx) ?_
          refine ex_of (fun _ _ hx => rx_ist (h1 := (wd b w wl (G6 ++ [(.inl 0, [.int 2, .int nm, .int 0, .int 0])]) s, (k1 + 1), (k2 + 4))) rfl rfl (oc_wd (oc_top hP6)) rfl rfl (congrArg (fun z => (z, (k1 + 1), (k2 + 4))) (wd_top hP6)) hx) ?_
          refine ex_of (fun _ _ hx => rx_k 4 (154, [(6, .int (ad - 10)), (5, .int (1 + wo)), (4, .int 2), (3, .int wk), (2, .int nm), (1, .int its), (0, .ref y)], [.int 1, .int 2, .int 2, .ref G6.length, .ref G6.length, .ref rp, .int its, .ref aP]) (fun _ _ => rfl) hx) ?_
          refine ex_of (fun _ _ hx => rx_icT rfl (nt (by decide)) hx) ?_
          refine ex_of (fun _ _ hx => rx_k 1 (163, [(6, .int (ad - 10)), (5, .int (1 + wo)), (4, .int 2), (3, .int wk), (2, .int nm), (1, .int its), (0, .ref y)], [.int 0, .int 2, .ref G6.length, .ref G6.length, .ref rp, .int its, .ref aP]) (fun _ _ => rfl) hx) ?_
          refine ex_of (fun _ _ hx => rx_ist (h1 := (wd b w wl (G6 ++ [(.inl 0, [.int 2, .int nm, .int 0, .int 0])]) s, (k1 + 1), (k2 + 4))) rfl rfl (oc_wd (oc_top hP6)) rfl rfl (congrArg (fun z => (z, (k1 + 1), (k2 + 4))) (wd_top hP6)) hx) ?_
          refine ex_of (fun _ _ hx => rx_k 3 (167, [(6, .int (ad - 10)), (5, .int (1 + wo)), (4, .int 2), (3, .int wk), (2, .int nm), (1, .int its), (0, .ref y)], [.int wk, .int 3, .ref G6.length, .ref G6.length, .ref rp, .int its, .ref aP]) (fun _ _ => rfl) hx) ?_
          refine ex_of (fun _ _ hx => rx_ist (h1 := (wd b w wl (G6 ++ [(.inl 0, [.int 2, .int nm, .int 0, .int wk])]) s, (k1 + 1), (k2 + 4))) rfl rfl (oc_wd (oc_top hP6)) rfl rfl (congrArg (fun z => (z, (k1 + 1), (k2 + 4))) (wd_top hP6)) hx) ?_
          have hxr := xt_push (x := 9) (b := b) (w := w) (H := G6) (d := ((.inl 0, [.int 2, .int nm, .int 0, .int wk]) : EC))
          have hr13 : Oc b w (G6 ++ [(.inl 0, [.int 2, .int nm, .int 0, .int wk])]) G6.length (.inl 0, [.int 2, .int nm, .int 0, .int wk]) := oc_top hP6
          have hP13 := wok_push (c := ((.inl 0, [.int 2, .int nm, .int 0, .int wk]) : EC)) hP6
          have hy13 := oc_push (d := ((.inl 0, [.int 2, .int nm, .int 0, .int wk]) : EC)) hy6
          have hA13 := ya_xt (xt_push (x := 9) (d := ((.inl 0, [.int 2, .int nm, .int 0, .int wk]) : EC))) hA6
          generalize G6 ++ [(.inl 0, [.int 2, .int nm, .int 0, .int wk])] = G13 at *
          obtain ⟨vP2, hPv2, lP2, eP2⟩ := id hA13.2.1
          have hq2 := hxr _ _ _ (by decide) hq
          have hAq : Aa b w G13 rp 3 (s 15 its.toNatClampNeg).toInt.toNat (fun _ u => Row0 b w G13 u) := aa_xt (by decide) hxr rp2 (fun _ u r => row0_xt (by decide) hxr r)
          obtain ⟨G14, j14, q14, hw14, ej14, ek14, el14, hP14, hx14, hoc14, hN14⟩ := yw (sc := sc) (wl := wl) (s := s) (k1 := (k1 + 1)) (k2 := (k2 + 4)) (Or.inl ⟨rfl, rfl, rfl⟩) hP13 hAq (by omega) (fun _ z q => q) hr13
          refine ex_of (fun _ _ hx => rx_inv rfl rfl hw14 rfl rfl rfl rfl rfl rfl hx) ?_
          have hy14 := hoc14 _ _ hy13
          have hA14 := ya_xt hx14 hA13
          have hrr14 := hoc14 _ _ hr13
          have hN214 : Aa b w G14 G13.length 3 ((s 15 its.toNatClampNeg).toInt.toNat + 1) (fun _ u => Row0 b w G14 u) := aa_cg hN14 rfl (fun a z _ q => by
            rcases q with ⟨_, q2⟩ | ⟨_, q2⟩
            · exact row0_xt (by decide) hx14 q2
            · exact ⟨_, q2 ▸ hrr14⟩)
          have hPv3 := hx14 _ _ _ (by decide) (hxr _ _ _ (by decide) hPv)
          generalize G13.length = aN at *
          obtain ⟨vn, hn1, _, _⟩ := id hN214
          have hset15 : ((wd b w wl G14 s).set aP (.inl 4, vP.set its.toNatClampNeg (.ref aN)), j14, q14) = (wd b w wl (G14.set aP (.inl 4, vP.set its.toNatClampNeg (.ref aN))) s, j14, q14) := congrArg (fun z => (z, j14, q14)) (wd_oset hP14 hPv3.1)
          refine ex_of (fun _ _ hx => rx_ast rfl rfl (oc_wd hPv3) (oc_wd hn1) rfl (ev_at_of (n_lt its0) rfl rp1) hset15 hx) ?_
          have hx4 : Xt 4 b w G14 w (G14.set aP (.inl 4, vP.set its.toNatClampNeg (.ref aN))) := xt_arr hPv3
          have hPk := wok_set (a := aP) (c := ((.inl 4, vP.set its.toNatClampNeg (.ref aN)) : EC)) hP14
          have hyk : Oc b w (G14.set aP (.inl 4, vP.set its.toNatClampNeg (.ref aN))) y (yc b d6 5 aS aP aD aI rest) := oc_set hy14 (fun q => by
            have z1 := hPv3.2
            rw [q] at z1
            cases (z1.symm.trans hy14.2))
          have hPn : Oc b w (G14.set aP (.inl 4, vP.set its.toNatClampNeg (.ref aN))) aP (.inl 4, vP.set its.toNatClampNeg (.ref aN)) := oc_self hPv3
          have hSk : Aa b w (G14.set aP (.inl 4, vP.set its.toNatClampNeg (.ref aN))) aS 3 (s 11 8).toInt.toNat (fun i r => Row1 b w (G14.set aP (.inl 4, vP.set its.toNatClampNeg (.ref aN))) r (s 12 i)) := aa_xt (by decide) hx4 hA14.1 (fun i r q => row1_xt (by decide) hx4 q)
          have hDk : Aa b w (G14.set aP (.inl 4, vP.set its.toNatClampNeg (.ref aN))) aD 3 nd (fun i r => Row2 b w (G14.set aP (.inl 4, vP.set its.toNatClampNeg (.ref aN))) r (dO i) (dN i)) := aa_xt (by decide) hx4 hA14.2.2.1 (fun i r q => row2_xt (by decide) hx4 q)
          have hIk : Aa b w (G14.set aP (.inl 4, vP.set its.toNatClampNeg (.ref aN))) aI 3 (s 20 2).toInt.toNat (fun _ r => Row0 b w (G14.set aP (.inl 4, vP.set its.toNatClampNeg (.ref aN))) r) := aa_xt (by decide) hx4 hA14.2.2.2 (fun i r q => row0_xt (by decide) hx4 q)
          have hxq : Xt 9 b w G6 w G14 := xt_trans hxr hx14
          have hNk : Aa b w (G14.set aP (.inl 4, vP.set its.toNatClampNeg (.ref aN))) aN 3 ((s 15 its.toNatClampNeg).toInt.toNat + 1) (fun _ u => Row0 b w (G14.set aP (.inl 4, vP.set its.toNatClampNeg (.ref aN))) u) := aa_xt (by decide) hx4 hN214 (fun _ u r => row0_xt (by decide) hx4 r)
          have hQk : Aa b w (G14.set aP (.inl 4, vP.set its.toNatClampNeg (.ref aN))) aP 4 (s 11 8).toInt.toNat (fun a z => Aa b w (G14.set aP (.inl 4, vP.set its.toNatClampNeg (.ref aN))) z 3 (if a = its.toNatClampNeg then (s 15 a).toInt.toNat + 1 else (s 15 a).toInt.toNat) (fun _ u => Row0 b w (G14.set aP (.inl 4, vP.set its.toNatClampNeg (.ref aN))) u)) := by
            refine ⟨_, hPn, by rw [List.length_set]; exact lP, fun a ha => ?_⟩
            by_cases ce : a = its.toNatClampNeg
            · refine ⟨aN, by rw [ce]; exact List.getElem?_set_self (by omega), ?_⟩
              show Aa b w _ aN 3 (if a = its.toNatClampNeg then (s 15 a).toInt.toNat + 1 else (s 15 a).toInt.toNat) _
              rw [if_pos ce, ce]; exact hNk
            · obtain ⟨z, z1, z2⟩ := eP a ha
              refine ⟨z, by rw [List.getElem?_set_ne (fun q => ce q.symm)]; exact z1, ?_⟩
              show Aa b w _ z 3 (if a = its.toNatClampNeg then (s 15 a).toInt.toNat + 1 else (s 15 a).toInt.toNat) _
              rw [if_neg ce]
              exact aa_xt (by decide) hx4 (aa_xt (by decide) hxq z2 (fun _ u r => row0_xt (by decide) hxq r)) (fun _ u r => row0_xt (by decide) hx4 r)
          generalize G14.set aP (.inl 4, vP.set its.toNatClampNeg (.ref aN)) = GG at *
          refine ex_of (fun _ _ hx => rx_k 1 (174, [(6, .int (ad - 10)), (5, .int (1 + wo)), (4, .int 2), (3, .int wk), (2, .int nm), (1, .int its), (0, .ref y)], [.int 2]) (fun _ _ => rfl) hx) ?_
          refine ex_of (fun _ _ hx => rx_ifT rfl (nt (by decide)) hx) ?_
          refine ex_of (fun _ _ hx => rx_k 2 (193, [(6, .int (ad - 10)), (5, .int (1 + wo)), (4, .int 2), (3, .int wk), (2, .int nm), (1, .int its), (0, .ref y)], [.int 1, .int 2]) (fun _ _ => rfl) hx) ?_
          refine ex_of (fun _ _ hx => rx_icT rfl (nt (by decide)) hx) ?_
          refine ex_of (fun _ _ hx => rx_k 1 (221, [(6, .int (ad - 10)), (5, .int (1 + wo)), (4, .int 2), (3, .int wk), (2, .int nm), (1, .int its), (0, .ref y)], [.ref y]) (fun _ _ => rfl) hx) ?_
          refine ex_of (fun _ _ hx => rx_getf rfl rfl (oc_wd hyk) rfl hx) ?_
          refine ex_of (fun _ _ hx => rx_k 4 (228, [(6, .int (ad - 10)), (5, .int (1 + wo)), (4, .int 2), (3, .int wk), (2, .int nm), (1, .int its), (0, .ref y)], [.int 1, .int wk, .int nm, .int its, .ref b]) (fun _ _ => rfl) hx) ?_
          obtain ⟨tT, t, tD, tI, tf, t15⟩ := t_jump ti (w := wk) its0 its1 h8 nm0 nm1
          have hj2 : ∀ P, Ex sc g_X12_piece 6 (236, [(6, .int (ad - 10)), (5, .int (1 + wo)), (4, .int 2), (3, .int wk), (2, .int nm), (1, .int its), (0, .ref y)], [.int wk, .int nm, .int its, .ref b]) (wd b w wl GG s, j14, q14) P → Ex sc g_X12_piece 6 (228, [(6, .int (ad - 10)), (5, .int (1 + wo)), (4, .int 2), (3, .int wk), (2, .int nm), (1, .int its), (0, .ref y)], [.int 1, .int wk, .int nm, .int its, .ref b]) (wd b w wl GG s, j14, q14) P := fun P hx => by
            rcases hk01 with rfl | rfl
            · refine ex_of (fun _ _ hx => rx_icF rfl (nf rfl) rfl hx) ?_
              refine ex_of (fun _ _ hx => rx_k 2 (236, [(6, .int (ad - 10)), (5, .int (1 + wo)), (4, .int 2), (3, .int 1), (2, .int nm), (1, .int its), (0, .ref y)], [.int 1, .int nm, .int its, .ref b]) (fun _ _ => rfl) hx) ?_
              exact hx
            · refine ex_of (fun _ _ hx => rx_icT rfl (nt (by decide)) hx) ?_
              refine ex_of (fun _ _ hx => rx_k 1 (236, [(6, .int (ad - 10)), (5, .int (1 + wo)), (4, .int 2), (3, .int 0), (2, .int nm), (1, .int its), (0, .ref y)], [.int 0, .int nm, .int its, .ref b]) (fun _ _ => rfl) hx) ?_
              exact hx
          refine hj2 _ ?_
          have hcall := rc_X11_jump (sc := sc) (wl := wl) (kn := (j14, q14)) hPk h.nn hkz tT
          have hNN := nn_X11_jump (a1 := its) (a2 := nm) (a3 := wk) h.nn
          rw [tD] at hcall hNN
          refine ex_of (fun _ _ hx => rx_inv rfl rfl hcall rfl rfl rfl (q_recv (wg_0 hPk)) rfl rfl hx) ?_
          have hYb : Yb b y w wl GG t j14 q14 (m + 12) (c + 12) e 5 5 := yb_piece (dr := d6) h its0 h8 tI tf t15 hNN hPk hyk (by omega) (by omega) hnd hDC (by omega) (by omega) hSk hQk hDk hIk
          obtain ⟨vF, hF, lF, eF⟩ := id hQk
          obtain ⟨rf, rf1, rf2⟩ := eF its.toNatClampNeg (by omega)
          have rf2 : Aa b w GG rf 3 (if its.toNatClampNeg = its.toNatClampNeg then (s 15 its.toNatClampNeg).toInt.toNat + 1 else (s 15 its.toNatClampNeg).toInt.toNat) (fun _ u => Row0 b w GG u) := rf2
          rw [if_pos rfl] at rf2
          obtain ⟨vg, hg, lg, eg⟩ := rf2
          have hi15 : (s 15 its.toNatClampNeg + 1).toInt = (s 15 its.toNatClampNeg).toInt + 1 := i_add1 (by omega)
          refine ex_of (fun _ _ hx => rx_k 3 (244, [(7, .int (s 15 its.toNatClampNeg)), (6, .int (ad - 10)), (5, .int (1 + wo)), (4, .int 2), (3, .int wk), (2, .int nm), (1, .int its), (0, .ref y)], [.ref y, .int (s 15 its.toNatClampNeg)]) (fun _ _ => rfl) hx) ?_
          refine ex_of (fun _ _ hx => rx_getf rfl rfl (oc_wd hyk) rfl hx) ?_
          refine ex_of (fun _ _ hx => rx_k 1 (248, [(7, .int (s 15 its.toNatClampNeg)), (6, .int (ad - 10)), (5, .int (1 + wo)), (4, .int 2), (3, .int wk), (2, .int nm), (1, .int its), (0, .ref y)], [.int its, .ref aP, .int (s 15 its.toNatClampNeg)]) (fun _ _ => rfl) hx) ?_
          refine ex_of (fun _ _ hx => rx_ald rfl rfl (oc_wd hF) rfl (ev_at_of (n_lt its0) rfl rf1) hx) ?_
          refine ex_of (fun _ _ hx => rx_alen rfl rfl (oc_wd hg) rfl (show Int32.ofNat vg.length = s 15 its.toNatClampNeg + 1 by rw [lg, ← ofn (x := s 15 its.toNatClampNeg + 1) (by omega), hi15]; congr 1; omega) hx) ?_
          refine ex_of (fun _ _ hx => rx_k 2 (252, [(7, .int (s 15 its.toNatClampNeg)), (6, .int (ad - 10)), (5, .int (1 + wo)), (4, .int 2), (3, .int wk), (2, .int nm), (1, .int its), (0, .ref y)], [.int ((s 15 its.toNatClampNeg + 1) - 1), .int (s 15 its.toNatClampNeg)]) (fun _ _ => rfl) hx) ?_
          refine ex_of (fun _ _ hx => rx_icF rfl (nf (Int32.add_sub_cancel _ _).symm) rfl hx) ?_
          refine ex_of (fun _ _ hx => rx_k 2 (260, [(7, .int (s 15 its.toNatClampNeg)), (6, .int (ad - 10)), (5, .int (1 + wo)), (4, .int 2), (3, .int wk), (2, .int nm), (1, .int its), (0, .ref y)], [.int 1]) (fun _ _ => rfl) hx) ?_
          exact ex_ri rfl ⟨rfl, GG, t, j14, q14, rfl, hYb, by omega, by omega, fun i j hi => tf i j (by omega) (by omega)⟩
  obtain ⟨o, h', hx, rfl, H', s', j1, j2, rfl, r1, r2, r3, r4⟩ := main
  exact ⟨H', s', j1, j2, rx_mc hx rfl rfl (Nat.ble_eq_true_of_le r2) (Nat.ble_eq_true_of_le r3), r1, r2, r3, r4⟩
end Y4
