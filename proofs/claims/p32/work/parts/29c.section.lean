/-! a section more -/
section Y3
variable {sc : Nat × (Nat → Int32)} {b w wl y : Nat} {H : List EC} {s : Sg} {k1 k2 m e : Nat} {c : Int}
theorem y_section (hL : sc.1 ≤ 260) (hm : m ≤ 100000) (h : Yb b y w wl H s k1 k2 m c e 5 5) : ∃ (H' : List EC) (s' : Sg) (j1 j2 : Nat), Rc sc 4 203 [.ref y] (wd b w wl H s, k1, k2) (some (.int 1)) (wd b w wl H' s', j1, j2) ∧ Yb b y w wl H' s' j1 j2 (m + 10) (c + 7) e 5 5 ∧ k1 ≤ j1 ∧ k2 ≤ j2 ∧ (∀ i j, 23 ≤ i → s' i j = s i j) := by
  obtain ⟨dr, aS, aP, aD, aI, rest, nd, dO, dN, hy, h0, h1, hnd, hDC, hA⟩ := h.ya
  have hP := h.ok
  have ti := h.ti
  have b1 := h.b1; have b2 := h.b2; have ns0 := ti.ns0; have ns1 := ti.ns1
  have main : Ex sc g_X12_section 3 (0, [(0, .ref y)], []) (wd b w wl H s, k1, k2) (fun o h' => o = some (.int 1) ∧ ∃ (H' : List EC) (s' : Sg) (j1 j2 : Nat), h' = (wd b w wl H' s', j1, j2) ∧ Yb b y w wl H' s' j1 j2 (m + 10) (c + 7) e 5 5 ∧ k1 ≤ j1 ∧ k2 ≤ j2 ∧ (∀ i j, 23 ≤ i → s' i j = s i j)) := by
    obtain ⟨vS, hS, lS, eS⟩ := id hA.1
    refine ex_of (fun _ _ hx => rx_k 1 (1, [(0, .ref y)], [.ref y]) (fun _ _ => rfl) hx) ?_
    refine ex_of (fun _ _ hx => rx_getf rfl rfl (oc_wd hy) rfl hx) ?_
    refine ex_of (fun _ _ hx => rx_alen rfl rfl (oc_wd hS) rfl (show Int32.ofNat vS.length = s 11 8 by rw [lS]; exact ofn ns0) hx) ?_
    refine ex_of (fun _ _ hx => rx_k 1 (7, [(0, .ref y)], [.int 24, .int (s 11 8)]) (fun _ _ => rfl) hx) ?_
    by_cases c0 : s 11 8 = 24
    · have hret : Yb b y w wl H s k1 k2 (m + 10) (c + 7) e 5 5 := h.le (by omega) (by omega) (by omega)
      refine ex_of (fun _ _ hx => rx_icT rfl (bt c0) hx) ?_
      refine ex_of (fun _ _ hx => rx_k 1 (18, [(0, .ref y)], [.int 1]) (fun _ _ => rfl) hx) ?_
      exact ex_ri rfl ⟨rfl, H, s, k1, k2, rfl, hret, Nat.le_refl _, Nat.le_refl _, fun _ _ _ => rfl⟩
    · have hc24 : (s 11 8).toInt < 24 := by
        have : (s 11 8).toInt ≠ 24 := fun q => c0 (Int32.toInt_inj.mp (q.trans (by decide)))
        omega
      refine ex_of (fun _ _ hx => rx_icF rfl (bf c0) rfl hx) ?_
      refine ex_of (fun _ _ hx => rx_k 1 (11, [(0, .ref y)], [.ref y]) (fun _ _ => rfl) hx) ?_
      refine ex_of (fun _ _ hx => rx_getf rfl rfl (oc_wd hy) rfl hx) ?_
      refine ex_of (fun _ _ hx => rx_ifT rfl (nt (by decide)) hx) ?_
      refine ex_of (fun _ _ hx => rx_k 2 (21, [(0, .ref y)], [.ref y, .ref y]) (fun _ _ => rfl) hx) ?_
      refine ex_of (fun _ _ hx => rx_getf rfl rfl (oc_wd hy) rfl hx) ?_
      obtain ⟨o, G1, d1, o0, o1, hd1, hP1, hy1, ed1, hA1, hx1⟩ := yd (sc := sc) (wl := wl) (s := s) (k1 := k1) (k2 := k2) hL hP hy hA (by omega) (by omega) (n := 5) (by decide)
      have o1 : o.toInt < 5 := o1
      refine ex_of (fun _ _ hx => rx_inv rfl rfl hd1 rfl rfl rfl (q_recv (oc_wd hy)) rfl rfl hx) ?_
      refine ex_of (fun _ _ hx => rx_k 4 (31, [(1, .int o), (0, .ref y)], [.int 4, .ref y, .int 1]) (fun _ _ => rfl) hx) ?_
      obtain ⟨al, G2, d2, al0, al1, hd2, hP2, hy2, ed2, hA2, hx2⟩ := yd (sc := sc) (wl := wl) (s := s) (k1 := k1) (k2 := k2) hL hP1 hy1 hA1 (by omega) (by omega) (n := 4) (by decide)
      have al1 : al.toInt < 4 := al1
      refine ex_of (fun _ _ hx => rx_inv rfl rfl hd2 rfl rfl rfl (q_recv (oc_wd hy1)) rfl rfl hx) ?_
      refine ex_of (fun _ _ hx => rx_k 4 (38, [(2, .int (1 <<< (al &&& 31))), (1, .int o), (0, .ref y)], [.int 4, .ref y]) (fun _ _ => rfl) hx) ?_
      obtain ⟨kp, G3, d3, kp0, kp1, hd3, hP3, hy3, ed3, hA3, hx3⟩ := yd (sc := sc) (wl := wl) (s := s) (k1 := k1) (k2 := k2) hL hP2 hy2 hA2 (by omega) (by omega) (n := 4) (by decide)
      have kp1 : kp.toInt < 4 := kp1
      refine ex_of (fun _ _ hx => rx_inv rfl rfl hd3 rfl rfl rfl (q_recv (oc_wd hy2)) rfl rfl hx) ?_
      have hk : ∃ kv : Int32, bz kv = true ∧ (kv = 1 ∨ kv = 0) ∧ ((kp = 0 ∧ kv = 1) ∨ (¬ kp = 0 ∧ kv = 0)) := by
        by_cases c1 : kp = 0
        · exact ⟨1, rfl, Or.inl rfl, Or.inl ⟨c1, rfl⟩⟩
        · exact ⟨0, rfl, Or.inr rfl, Or.inr ⟨c1, rfl⟩⟩
      obtain ⟨kv, hkz, hk01, hk⟩ := hk
      have hj : ∀ P, Ex sc g_X12_section 3 (49, [(2, .int (1 <<< (al &&& 31))), (1, .int o), (0, .ref y)], [.int kv]) (wd b w wl G3 s, k1, k2) P → Ex sc g_X12_section 3 (41, [(2, .int (1 <<< (al &&& 31))), (1, .int o), (0, .ref y)], [.int kp]) (wd b w wl G3 s, k1, k2) P := fun P hx => by
        rcases hk with ⟨c1, rfl⟩ | ⟨c1, rfl⟩
        · refine ex_of (fun _ _ hx => rx_ifF rfl (nf c1) rfl hx) ?_
          refine ex_of (fun _ _ hx => rx_k 2 (49, [(2, .int (1 <<< (al &&& 31))), (1, .int o), (0, .ref y)], [.int 1]) (fun _ _ => rfl) hx) ?_
          exact hx
        · refine ex_of (fun _ _ hx => rx_ifT rfl (nt c1) hx) ?_
          refine ex_of (fun _ _ hx => rx_k 1 (49, [(2, .int (1 <<< (al &&& 31))), (1, .int o), (0, .ref y)], [.int 0]) (fun _ _ => rfl) hx) ?_
          exact hx
      refine hj _ ?_
      refine ex_of (fun _ _ hx => rx_k 3 (52, [(3, .int kv), (2, .int (1 <<< (al &&& 31))), (1, .int o), (0, .ref y)], [.ref y, .ref y]) (fun _ _ => rfl) hx) ?_
      refine ex_of (fun _ _ hx => rx_getf rfl rfl (oc_wd hy3) rfl hx) ?_
      refine ex_of (fun _ _ hx => rx_k 1 (56, [(3, .int kv), (2, .int (1 <<< (al &&& 31))), (1, .int o), (0, .ref y)], [.int 3, .ref aS, .ref y]) (fun _ _ => rfl) hx) ?_
      refine ex_of (fun _ _ hx => rx_newa (a := G3.length) (h1 := (wd b w wl (G3 ++ [(.inl 0, [.int 0, .int 0, .int 0])]) s, (k1 + 1), (k2 + 3))) rfl rfl (by decide) rfl (congrArg (fun z => (z, (k1 + 1), (k2 + 3))) (wd_push hP3)) wd_len hx) ?_
      refine ex_of (fun _ _ hx => rx_k 3 (61, [(3, .int kv), (2, .int (1 <<< (al &&& 31))), (1, .int o), (0, .ref y)], [.int o, .int 0, .ref G3.length, .ref G3.length, .ref aS, .ref y]) (fun _ _ => rfl) hx) ?_
      refine ex_of (fun _ _ hx => rx_ist (h1 := (wd b w wl (G3 ++ [(.inl 0, [.int o, .int 0, .int 0])]) s, (k1 + 1), (k2 + 3))) rfl rfl (oc_wd (oc_top hP3)) rfl rfl (congrArg (fun z => (z, (k1 + 1), (k2 + 3))) (wd_top hP3)) hx) ?_
      refine ex_of (fun _ _ hx => rx_k 3 (65, [(3, .int kv), (2, .int (1 <<< (al &&& 31))), (1, .int o), (0, .ref y)], [.int (1 <<< (al &&& 31)), .int 1, .ref G3.length, .ref G3.length, .ref aS, .ref y]) (fun _ _ => rfl) hx) ?_
      refine ex_of (fun _ _ hx => rx_ist (h1 := (wd b w wl (G3 ++ [(.inl 0, [.int o, .int (1 <<< (al &&& 31)), .int 0])]) s, (k1 + 1), (k2 + 3))) rfl rfl (oc_wd (oc_top hP3)) rfl rfl (congrArg (fun z => (z, (k1 + 1), (k2 + 3))) (wd_top hP3)) hx) ?_
      refine ex_of (fun _ _ hx => rx_k 3 (69, [(3, .int kv), (2, .int (1 <<< (al &&& 31))), (1, .int o), (0, .ref y)], [.int kv, .int 2, .ref G3.length, .ref G3.length, .ref aS, .ref y]) (fun _ _ => rfl) hx) ?_
      refine ex_of (fun _ _ hx => rx_ist (h1 := (wd b w wl (G3 ++ [(.inl 0, [.int o, .int (1 <<< (al &&& 31)), .int kv])]) s, (k1 + 1), (k2 + 3))) rfl rfl (oc_wd (oc_top hP3)) rfl rfl (congrArg (fun z => (z, (k1 + 1), (k2 + 3))) (wd_top hP3)) hx) ?_
      have hr4 : Oc b w (G3 ++ [(.inl 0, [.int o, .int (1 <<< (al &&& 31)), .int kv])]) G3.length (.inl 0, [.int o, .int (1 <<< (al &&& 31)), .int kv]) := oc_top hP3
      have hP4 := wok_push (c := ((.inl 0, [.int o, .int (1 <<< (al &&& 31)), .int kv]) : EC)) hP3
      have hy4 := oc_push (d := ((.inl 0, [.int o, .int (1 <<< (al &&& 31)), .int kv]) : EC)) hy3
      have hA4 := ya_xt (xt_push (x := 9) (d := ((.inl 0, [.int o, .int (1 <<< (al &&& 31)), .int kv]) : EC))) hA3
      generalize G3 ++ [(.inl 0, [.int o, .int (1 <<< (al &&& 31)), .int kv])] = G4 at *
      have hsec := al8.pw (shl_4 al0 al1)
      have ho2 : o.toInt < (s 1 9).toInt := by have := h.o5; omega
      obtain ⟨G5, j5, q5, hw5, ej5, ek5, el5, hP5, hx5, hoc5, hS5⟩ := yw (sc := sc) (wl := wl) (s := s) (k1 := (k1 + 1)) (k2 := (k2 + 3)) (Or.inl ⟨rfl, rfl, rfl⟩) hP4 hA4.1 (by omega) (fun i z q => by obtain ⟨u, hu⟩ := q; exact ⟨_, hu⟩) hr4
      refine ex_of (fun _ _ hx => rx_inv rfl rfl hw5 rfl rfl rfl rfl rfl rfl hx) ?_
      have hyw5 := hoc5 _ _ hy4
      have hAw5 := ya_xt hx5 hA4
      generalize G4.length = aT at *
      have hset6 : ((wd b w wl G5 s).set y (.inr 12, (.ref b :: .float 0 :: .int d3 :: .int 5 :: .ref aS :: .ref aP :: .ref aD :: .ref aI :: rest).set 4 (.ref aT)), j5, q5) = (wd b w wl (G5.set y (yc b d3 5 aT aP aD aI rest)) s, j5, q5) := congrArg (fun z => (z, j5, q5)) (wd_oset hP5 hyw5.1)
      refine ex_of (fun _ _ hx => rx_putf rfl rfl (oc_wd hyw5) (by show (true && decide (4 < rest.length + 8)) = true; rw [decide_eq_true (by omega)]; rfl) hset6 hx) ?_
      have hxy6 : Xt 9 b w G5 w (G5.set y (yc b d3 5 aT aP aD aI rest)) := xt_obj (k := 12) hyw5
      have hy6 : Oc b w (G5.set y (yc b d3 5 aT aP aD aI rest)) y (yc b d3 5 aT aP aD aI rest) := oc_self hyw5
      have hP6 := wok_set (a := y) (c := yc b d3 5 aT aP aD aI rest) hP5
      have hA6 := ya_xt hxy6 hAw5
      have hS6 := aa_xt (Q := fun a z => (a < (s 11 8).toInt.toNat ∧ Row1 b w (G5.set y (yc b d3 5 aT aP aD aI rest)) z (s 12 a)) ∨ (a = (s 11 8).toInt.toNat ∧ Row1 b w (G5.set y (yc b d3 5 aT aP aD aI rest)) z o)) (by decide) hxy6 hS5 (fun a z q => by
        rcases q with ⟨q1, q2⟩ | ⟨q1, q2⟩
        · exact Or.inl ⟨q1, row1_xt (by decide) (xt_trans hx5 hxy6) q2⟩
        · exact Or.inr ⟨q1, row1_xt (by decide) (xt_trans hx5 hxy6) ⟨_, q2 ▸ hr4⟩⟩)
      generalize G5.set y (yc b d3 5 aT aP aD aI rest) = G6 at *
      refine ex_of (fun _ _ hx => rx_k 2 (78, [(3, .int kv), (2, .int (1 <<< (al &&& 31))), (1, .int o), (0, .ref y)], [.ref y, .ref y]) (fun _ _ => rfl) hx) ?_
      refine ex_of (fun _ _ hx => rx_getf rfl rfl (oc_wd hy6) rfl hx) ?_
      refine ex_of (fun _ _ hx => rx_k 1 (82, [(3, .int kv), (2, .int (1 <<< (al &&& 31))), (1, .int o), (0, .ref y)], [.int 0, .ref aP, .ref y]) (fun _ _ => rfl) hx) ?_
      refine ex_of (fun _ _ hx => rx_newq (a := G6.length) (h1 := (wd b w wl (G6 ++ [(.inl 3, [])]) s, j5 + 1, q5 + 0)) rfl rfl (by decide) rfl (congrArg (fun z => (z, j5 + 1, q5 + 0)) (wd_push hP6)) wd_len hx) ?_
      have hr7 : Oc b w (G6 ++ [(.inl 3, [])]) G6.length (.inl 3, []) := oc_top hP6
      have hP7 := wok_push (c := ((.inl 3, []) : EC)) hP6
      have hy7 := oc_push (d := ((.inl 3, []) : EC)) hy6
      have hA7 := ya_xt (xt_push (x := 9) (d := ((.inl 3, []) : EC))) hA6
      have hS7 := aa_xt (Q := fun a z => (a < (s 11 8).toInt.toNat ∧ Row1 b w (G6 ++ [(.inl 3, [])]) z (s 12 a)) ∨ (a = (s 11 8).toInt.toNat ∧ Row1 b w (G6 ++ [(.inl 3, [])]) z o)) (by decide) (xt_push (x := 9) (d := ((.inl 3, []) : EC))) hS6 (fun a z q => by
        rcases q with ⟨q1, q2⟩ | ⟨q1, q2⟩
        · exact Or.inl ⟨q1, row1_xt (by decide) (xt_push (x := 9)) q2⟩
        · exact Or.inr ⟨q1, row1_xt (by decide) (xt_push (x := 9)) q2⟩)
      generalize G6.length = aE at *
      generalize G6 ++ [(.inl 3, [])] = G7 at *
      obtain ⟨G8, j8, q8, hw8, ej8, ek8, el8, hP8, hx8, hoc8, hN8⟩ := yw (sc := sc) (wl := wl) (s := s) (k1 := (j5 + 1)) (k2 := (q5 + 0)) (Or.inr ⟨rfl, rfl, rfl⟩) hP7 hA7.2.1 (by omega) (fun i z q => by obtain ⟨u, hu, _⟩ := q; exact ⟨_, hu⟩) hr7
      refine ex_of (fun _ _ hx => rx_inv rfl rfl hw8 rfl rfl rfl rfl rfl rfl hx) ?_
      have hy8 := hoc8 _ _ hy7
      have hA8 := ya_xt hx8 hA7
      have hS8 := aa_xt (Q := fun a z => (a < (s 11 8).toInt.toNat ∧ Row1 b w G8 z (s 12 a)) ∨ (a = (s 11 8).toInt.toNat ∧ Row1 b w G8 z o)) (by decide) hx8 hS7 (fun a z q => by
        rcases q with ⟨q1, q2⟩ | ⟨q1, q2⟩
        · exact Or.inl ⟨q1, row1_xt (by decide) hx8 q2⟩
        · exact Or.inr ⟨q1, row1_xt (by decide) hx8 q2⟩)
      have hE8 := hoc8 _ _ hr7
      generalize G7.length = aQ at *
      have hset9 : ((wd b w wl G8 s).set y (.inr 12, (.ref b :: .float 0 :: .int d3 :: .int 5 :: .ref aT :: .ref aP :: .ref aD :: .ref aI :: rest).set 5 (.ref aQ)), j8, q8) = (wd b w wl (G8.set y (yc b d3 5 aT aQ aD aI rest)) s, j8, q8) := congrArg (fun z => (z, j8, q8)) (wd_oset hP8 hy8.1)
      refine ex_of (fun _ _ hx => rx_putf rfl rfl (oc_wd hy8) (by show (true && decide (5 < rest.length + 8)) = true; rw [decide_eq_true (by omega)]; rfl) hset9 hx) ?_
      have hxy9 : Xt 9 b w G8 w (G8.set y (yc b d3 5 aT aQ aD aI rest)) := xt_obj (k := 12) hy8
      have hy9 : Oc b w (G8.set y (yc b d3 5 aT aQ aD aI rest)) y (yc b d3 5 aT aQ aD aI rest) := oc_self hy8
      have hP9 := wok_set (a := y) (c := yc b d3 5 aT aQ aD aI rest) hP8
      have hA9 := ya_xt hxy9 hA8
      have hxx9 := xt_trans hx8 hxy9
      have hE9 := hxy9 _ _ _ (by decide) hE8
      have hS9 := aa_xt (Q := fun a z => (a < (s 11 8).toInt.toNat ∧ Row1 b w (G8.set y (yc b d3 5 aT aQ aD aI rest)) z (s 12 a)) ∨ (a = (s 11 8).toInt.toNat ∧ Row1 b w (G8.set y (yc b d3 5 aT aQ aD aI rest)) z o)) (by decide) hxy9 hS8 (fun a z q => by
        rcases q with ⟨q1, q2⟩ | ⟨q1, q2⟩
        · exact Or.inl ⟨q1, row1_xt (by decide) hxy9 q2⟩
        · exact Or.inr ⟨q1, row1_xt (by decide) hxy9 q2⟩)
      have hN9 := aa_xt (Q := fun a z => (a < (s 11 8).toInt.toNat ∧ Aa b w (G8.set y (yc b d3 5 aT aQ aD aI rest)) z 3 (s 15 a).toInt.toNat (fun _ u => Row0 b w (G8.set y (yc b d3 5 aT aQ aD aI rest)) u)) ∨ (a = (s 11 8).toInt.toNat ∧ Oc b w (G8.set y (yc b d3 5 aT aQ aD aI rest)) z (.inl 3, []))) (by decide) hxy9 hN8 (fun a z q => by
        rcases q with ⟨q1, q2⟩ | ⟨q1, q2⟩
        · exact Or.inl ⟨q1, aa_xt (by decide) hxx9 q2 (fun _ u r => row0_xt (by decide) hxx9 r)⟩
        · exact Or.inr ⟨q1, q2 ▸ hE9⟩)
      generalize G8.set y (yc b d3 5 aT aQ aD aI rest) = G9 at *
      refine ex_of (fun _ _ hx => rx_k 1 (92, [(3, .int kv), (2, .int (1 <<< (al &&& 31))), (1, .int o), (0, .ref y)], [.ref y]) (fun _ _ => rfl) hx) ?_
      refine ex_of (fun _ _ hx => rx_getf rfl rfl (oc_wd hy9) rfl hx) ?_
      refine ex_of (fun _ _ hx => rx_k 4 (99, [(3, .int kv), (2, .int (1 <<< (al &&& 31))), (1, .int o), (0, .ref y)], [.int 1, .int kv, .int (1 <<< (al &&& 31)), .int o, .ref b]) (fun _ _ => rfl) hx) ?_
      obtain ⟨tT, tD, tI⟩ := t_section (k := kv) ti hc24 o0 o1 ho2 hsec.1
      have hj2 : ∀ P, Ex sc g_X12_section 3 (107, [(3, .int kv), (2, .int (1 <<< (al &&& 31))), (1, .int o), (0, .ref y)], [.int kv, .int ((1 : Int32) <<< (al &&& 31)), .int o, .ref b]) (wd b w wl G9 s, j8, q8) P → Ex sc g_X12_section 3 (99, [(3, .int kv), (2, .int (1 <<< (al &&& 31))), (1, .int o), (0, .ref y)], [.int 1, .int kv, .int (1 <<< (al &&& 31)), .int o, .ref b]) (wd b w wl G9 s, j8, q8) P := fun P hx => by
        rcases hk01 with rfl | rfl
        · refine ex_of (fun _ _ hx => rx_icF rfl (nf rfl) rfl hx) ?_
          refine ex_of (fun _ _ hx => rx_k 2 (107, [(3, .int 1), (2, .int (1 <<< (al &&& 31))), (1, .int o), (0, .ref y)], [.int 1, .int (1 <<< (al &&& 31)), .int o, .ref b]) (fun _ _ => rfl) hx) ?_
          exact hx
        · refine ex_of (fun _ _ hx => rx_icT rfl (nt (by decide)) hx) ?_
          refine ex_of (fun _ _ hx => rx_k 1 (107, [(3, .int 0), (2, .int (1 <<< (al &&& 31))), (1, .int o), (0, .ref y)], [.int 0, .int (1 <<< (al &&& 31)), .int o, .ref b]) (fun _ _ => rfl) hx) ?_
          exact hx
      refine hj2 _ ?_
      have hcall := rc_X11_section (sc := sc) (wl := wl) (kn := (j8, q8)) hP9 h.nn hkz tT
      have hNN := nn_X11_section (a1 := o) (a2 := (1 : Int32) <<< (al &&& 31)) (a3 := kv) h.nn
      rw [tD] at hcall hNN
      refine ex_of (fun _ _ hx => rx_inv rfl rfl hcall rfl rfl rfl (q_recv (wg_0 hP9)) rfl rfl hx) ?_
      have hi : (s 11 8 + 1).toInt = (s 11 8).toInt + 1 := i_add1 (by omega)
      have hNe : (s 11 8).toNatClampNeg = (s 11 8).toInt.toNat := rfl
      have v11 : (up (up (up (up s 12 (s 11 8).toNatClampNeg o) 13 (s 11 8).toNatClampNeg ((1 : Int32) <<< (al &&& 31))) 14 (s 11 8).toNatClampNeg kv) 11 8 (s 11 8 + 1)) 11 8 = s 11 8 + 1 := rd_eq
      have v12 : ∀ j, (up (up (up (up s 12 (s 11 8).toNatClampNeg o) 13 (s 11 8).toNatClampNeg ((1 : Int32) <<< (al &&& 31))) 14 (s 11 8).toNatClampNeg kv) 11 8 (s 11 8 + 1)) 12 j = if j = (s 11 8).toNatClampNeg then o else s 12 j := fun j => by simp [up_at]
      have vf : ∀ i j, i ≠ 11 → i ≠ 12 → i ≠ 13 → i ≠ 14 → (up (up (up (up s 12 (s 11 8).toNatClampNeg o) 13 (s 11 8).toNatClampNeg ((1 : Int32) <<< (al &&& 31))) 14 (s 11 8).toNatClampNeg kv) 11 8 (s 11 8 + 1)) i j = s i j := fun i j e1 e2 e3 e4 => by rw [up_ne e1, up_ne e4, up_ne e3, up_ne e2]
      generalize (up (up (up (up s 12 (s 11 8).toNatClampNeg o) 13 (s 11 8).toNatClampNeg ((1 : Int32) <<< (al &&& 31))) 14 (s 11 8).toNatClampNeg kv) 11 8 (s 11 8 + 1)) = t at *
      have hpz := ti.pz (s 11 8).toInt.toNat (by omega)
      have hYa : Ya b w G9 t nd dO dN aT aQ aD aI := by
        refine ⟨aa_cg hS9 (by rw [v11, hi]; omega) (fun i r _ q => ?_), aa_cg hN9 (by rw [v11, hi]; omega) (fun i r _ q => ?_), hA9.2.2.1, aa_cg hA9.2.2.2 (by rw [vf _ _ (by decide) (by decide) (by decide) (by decide)]) (fun _ _ _ q => q)⟩
        · rw [v12]
          rcases q with ⟨q1, q2⟩ | ⟨q1, q2⟩
          · rw [if_neg (by omega)]; exact q2
          · rw [if_pos (by omega)]; exact q2
        · show Aa b w G9 r 3 (t 15 i).toInt.toNat (fun _ u => Row0 b w G9 u)
          rw [vf _ _ (by decide) (by decide) (by decide) (by decide)]
          rcases q with ⟨q1, q2⟩ | ⟨q1, q2⟩
          · exact q2
          · rw [q1, hpz]; exact ⟨[], q2, rfl, fun i hi => absurd hi (Nat.not_lt_zero i)⟩
      have hYb : Yb b y w wl G9 t j8 q8 (m + 10) (c + 7) e 5 5 := by
        refine ⟨hP9, h.w1, hNN, by omega, by omega, tI.le (by have := hsec.2; omega), ?_, ?_, ?_, ?_, d3, aT, aQ, aD, aI, rest, nd, dO, dN, hy9, by omega, by omega, hnd, hDC.of (fun o _ => vf _ _ (by decide) (by decide) (by decide) (by decide)), hYa⟩
        · have hl := h.lib
          unfold L0
          rw [vf 23 13 (by decide) (by decide) (by decide) (by decide), vf 23 14 (by decide) (by decide) (by decide) (by decide), vf 23 15 (by decide) (by decide) (by decide) (by decide)]
          exact ⟨hl.1, hl.2.1, hl.2.2.1, fun j => by rw [vf _ _ (by decide) (by decide) (by decide) (by decide)]; exact hl.2.2.2.1 j, fun j => by rw [vf _ _ (by decide) (by decide) (by decide) (by decide)]; exact hl.2.2.2.2.1 j, fun j => by rw [vf _ _ (by decide) (by decide) (by decide) (by decide)]; exact hl.2.2.2.2.2.1 j, fun j => by rw [vf _ _ (by decide) (by decide) (by decide) (by decide)]; exact hl.2.2.2.2.2.2 j⟩
        · rw [vf _ _ (by decide) (by decide) (by decide) (by decide)]; exact h.lc
        · rw [vf _ _ (by decide) (by decide) (by decide) (by decide), vf _ _ (by decide) (by decide) (by decide) (by decide)]; exact h.rl
        · rw [vf _ _ (by decide) (by decide) (by decide) (by decide)]; exact h.o5
      obtain ⟨vT, hT1, lT, eT⟩ := id hYa.1
      refine ex_of (fun _ _ hx => rx_k 1 (111, [(3, .int kv), (2, .int (1 <<< (al &&& 31))), (1, .int o), (0, .ref y)], [.ref y, .int (s 11 8)]) (fun _ _ => rfl) hx) ?_
      refine ex_of (fun _ _ hx => rx_getf rfl rfl (oc_wd hy9) rfl hx) ?_
      refine ex_of (fun _ _ hx => rx_alen rfl rfl (oc_wd hT1) rfl (show Int32.ofNat vT.length = s 11 8 + 1 by rw [lT, v11]; exact ofn (by omega)) hx) ?_
      refine ex_of (fun _ _ hx => rx_k 2 (117, [(3, .int kv), (2, .int (1 <<< (al &&& 31))), (1, .int o), (0, .ref y)], [.int ((s 11 8 + 1) - 1), .int (s 11 8)]) (fun _ _ => rfl) hx) ?_
      refine ex_of (fun _ _ hx => rx_icF rfl (nf (Int32.add_sub_cancel _ _).symm) rfl hx) ?_
      refine ex_of (fun _ _ hx => rx_k 2 (125, [(3, .int kv), (2, .int (1 <<< (al &&& 31))), (1, .int o), (0, .ref y)], [.int 1]) (fun _ _ => rfl) hx) ?_
      exact ex_ri rfl ⟨rfl, G9, t, j8, q8, rfl, hYb, by omega, by omega, fun i j hi => vf i j (by omega) (by omega) (by omega) (by omega)⟩
  obtain ⟨o, h', hx, rfl, H', s', j1, j2, rfl, r1, r2, r3, r4⟩ := main
  exact ⟨H', s', j1, j2, rx_mc hx rfl rfl (Nat.ble_eq_true_of_le r2) (Nat.ble_eq_true_of_le r3), r1, r2, r3, r4⟩
end Y3
