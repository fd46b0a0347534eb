/-! the law's step: a section more, and nothing that was there moves -/
section L2S
variable {sc : Nat × (Nat → Int32)} {b y w wl : Nat} {H : List EC} {s s0 s1 : Sg} {k1 k2 m : Nat} {c : Int} {e : Nat} {a i : Int32} {wl1 N aw : Nat} {tm st : Int32} {P : Option Value → EH → Prop}
theorem Zw.le {m' : Nat} {c' : Int} (h : Zw b y w wl H s k1 k2 m c e s0 s1 N aw) (hm : m ≤ m') (hc : c ≤ c') : Zw b y w wl H s k1 k2 m' c' e s0 s1 N aw := ⟨h.1.le hm hc (Nat.le_refl _), h.2.1, h.2.2⟩
theorem seg_c (hL : sc.1 ≤ 260) (hm : m ≤ 71000) (hf : Zf s0 s1 a i wl1 N) (h : Zw b y w wl H s k1 k2 m c e s0 s1 N aw) (cont : ∀ (w' wl' : Nat) (H' : List EC) (s' : Sg) (j1 j2 : Nat), Zw b y w' wl' H' s' j1 j2 (m + 80) (c + 15) e s0 s1 N aw → k1 ≤ j1 → k2 ≤ j2 → Ex sc g_law 10 (282, [(0, .float 0), (1, .int tm), (2, .ref y), (3, .ref b), (4, .int st), (5, .int a), (6, .int i), (7, .int (D_X0_count 38 s1)), (10, .ref aw)], []) (wd b w' wl' H' s', j1, j2) P) : Ex sc g_law 10 (171, [(0, .float 0), (1, .int tm), (2, .ref y), (3, .ref b), (4, .int st), (5, .int a), (6, .int i), (7, .int (D_X0_count 38 s1)), (10, .ref aw)], []) (wd b w wl H s, k1, k2) P := by
  obtain ⟨hY, hT, hW, hl⟩ := id h
  obtain ⟨dr, aS, aP, aD, aI, rest, nd, dO, dN, hy, h0, h1, hnd, hDC, hA⟩ := hY.ya
  have hP := hY.ok
  have ti := hY.ti
  have b1 := hY.b1; have b2 := hY.b2; have ns0 := ti.ns0; have ns1 := ti.ns1
  have h24 : (24 : Int32).toInt = 24 := rfl
  by_cases c0 : 24 ≤ s 11 8
  · refine ex_of (fun _ _ hx => rx_k 2 (173, [(0, .float 0), (1, .int tm), (2, .ref y), (3, .ref b), (4, .int st), (5, .int a), (6, .int i), (7, .int (D_X0_count 38 s1)), (10, .ref aw)], [.int 1, .ref b]) (fun _ _ => rfl) hx) ?_
    refine ex_of (fun _ _ hx => rx_inv rfl rfl (z_many hP hY.nn mt_1 md_1) rfl rfl rfl (q_recv (wg_0 hP)) rfl rfl hx) ?_
    refine ex_of (fun _ _ hx => rx_k 1 (178, [(0, .float 0), (1, .int tm), (2, .ref y), (3, .ref b), (4, .int st), (5, .int a), (6, .int i), (7, .int (D_X0_count 38 s1)), (10, .ref aw)], [.int 24, .int (s 11 8)]) (fun _ _ => rfl) hx) ?_
    refine ex_of (fun _ _ hx => rx_icT rfl (bt c0) hx) ?_
    exact cont w wl H s k1 k2 (h.le (by omega) (by omega)) (Nat.le_refl _) (Nat.le_refl _)
  · refine ex_of (fun _ _ hx => rx_k 2 (173, [(0, .float 0), (1, .int tm), (2, .ref y), (3, .ref b), (4, .int st), (5, .int a), (6, .int i), (7, .int (D_X0_count 38 s1)), (10, .ref aw)], [.int 1, .ref b]) (fun _ _ => rfl) hx) ?_
    refine ex_of (fun _ _ hx => rx_inv rfl rfl (z_many hP hY.nn mt_1 md_1) rfl rfl rfl (q_recv (wg_0 hP)) rfl rfl hx) ?_
    refine ex_of (fun _ _ hx => rx_k 1 (178, [(0, .float 0), (1, .int tm), (2, .ref y), (3, .ref b), (4, .int st), (5, .int a), (6, .int i), (7, .int (D_X0_count 38 s1)), (10, .ref aw)], [.int 24, .int (s 11 8)]) (fun _ _ => rfl) hx) ?_
    refine ex_of (fun _ _ hx => rx_icF rfl (bf c0) rfl hx) ?_
    have hc24 : (s 11 8).toInt < 24 := i_nle c0
    refine ex_of (fun _ _ hx => rx_k 3 (184, [(0, .float 0), (1, .int tm), (2, .ref y), (3, .ref b), (4, .int st), (5, .int a), (6, .int i), (7, .int (D_X0_count 38 s1)), (10, .ref aw)], [.int 5, .ref y, .ref b]) (fun _ _ => rfl) hx) ?_
    obtain ⟨o, G1, d1, o0, o1, hd1, hP1, hy1, ed1, hA1, hx1⟩ := yd (sc := sc) (wl := wl) (s := s) (k1 := k1) (k2 := k2) hL hP hy hA (by omega) (by omega) (n := 5) (by decide)
    have o1 : o.toInt < 5 := o1
    refine ex_of (fun _ _ hx => rx_inv rfl rfl hd1 rfl rfl rfl (q_recv (oc_wd hy)) rfl rfl hx) ?_
    have hWa := hx1 _ _ _ (by decide) hW
    have ho2 : o.toInt < (s 1 9).toInt := by have := hY.o5; omega
    have p16 : pw (16 : Int32) := Or.inr (Or.inr (Or.inr (Or.inr rfl)))
    obtain ⟨tT, tD, tI⟩ := t_section (k := 0) ti hc24 o0 o1 ho2 p16
    have hcall := rc_X11_section (sc := sc) (wl := wl) (kn := (k1, k2)) hP1 hY.nn (by decide) tT
    have hNN := nn_X11_section (a1 := o) (a2 := 16) (a3 := 0) hY.nn
    rw [tD] at hcall hNN
    refine ex_of (fun _ _ hx => rx_k 2 (190, [(0, .float 0), (1, .int tm), (2, .ref y), (3, .ref b), (4, .int st), (5, .int a), (6, .int i), (7, .int (D_X0_count 38 s1)), (10, .ref aw)], [.int 0, .int 16, .int o, .ref b]) (fun _ _ => rfl) hx) ?_
    refine ex_of (fun _ _ hx => rx_inv rfl rfl hcall rfl rfl rfl (q_recv (wg_0 hP1)) rfl rfl hx) ?_
    have hi : (s 11 8 + 1).toInt = (s 11 8).toInt + 1 := i_add1 (by omega)
    have hNe : (s 11 8).toNatClampNeg = (s 11 8).toInt.toNat := rfl
    have htb := tb_section (o := o) (al := 16) hT hc24
    have v11 : (up (up (up (up s 12 (s 11 8).toNatClampNeg o) 13 (s 11 8).toNatClampNeg 16) 14 (s 11 8).toNatClampNeg 0) 11 8 (s 11 8 + 1)) 11 8 = s 11 8 + 1 := rd_eq
    have v12 : ∀ j, (up (up (up (up s 12 (s 11 8).toNatClampNeg o) 13 (s 11 8).toNatClampNeg 16) 14 (s 11 8).toNatClampNeg 0) 11 8 (s 11 8 + 1)) 12 j = if j = (s 11 8).toNatClampNeg then o else s 12 j := fun j => by simp [up_at]
    have vf : ∀ i j, i ≠ 11 → i ≠ 12 → i ≠ 13 → i ≠ 14 → (up (up (up (up s 12 (s 11 8).toNatClampNeg o) 13 (s 11 8).toNatClampNeg 16) 14 (s 11 8).toNatClampNeg 0) 11 8 (s 11 8 + 1)) i j = s i j := fun i j e1 e2 e3 e4 => by rw [up_ne e1, up_ne e4, up_ne e3, up_ne e2]
    generalize (up (up (up (up s 12 (s 11 8).toNatClampNeg o) 13 (s 11 8).toNatClampNeg 16) 14 (s 11 8).toNatClampNeg 0) 11 8 (s 11 8 + 1)) = t at *
    have hsec : D_X8_has t (s 11 8) = 1 := by
      unfold D_X8_has
      rw [v11, if_neg (by rw [Int32.lt_iff_toInt_lt, show (0 : Int32).toInt = 0 from rfl]; omega), if_neg (by rw [Int32.le_iff_toInt_le, hi]; omega), if_neg c0]
    have hoT : T_X11_ofSection t (s 11 8) 0 = true := by
      unfold T_X11_ofSection
      rw [hsec]; rfl
    have hoD : D_X11_ofSection t (s 11 8) 0 = o := by
      unfold D_X11_ofSection D_X8_objectOf
      rw [hsec, if_neg (by decide), if_pos rfl, if_neg (by decide), v12, if_pos rfl]
    have hsub : (s 11 8 + 1) - 1 = s 11 8 := Int32.add_sub_cancel _ _
    refine ex_of (fun _ _ hx => rx_k 2 (195, [(0, .float 0), (1, .int tm), (2, .ref y), (3, .ref b), (4, .int st), (5, .int a), (6, .int i), (7, .int (D_X0_count 38 s1)), (10, .ref aw)], [.int 1, .ref b, .int (s 11 8)]) (fun _ _ => rfl) hx) ?_
    refine ex_of (fun _ _ hx => rx_inv rfl rfl (z_many hP1 hNN mt_1 (md_1.trans v11)) rfl rfl rfl (q_recv (wg_0 hP1)) rfl rfl hx) ?_
    refine ex_of (fun _ _ hx => rx_k 2 (200, [(0, .float 0), (1, .int tm), (2, .ref y), (3, .ref b), (4, .int st), (5, .int a), (6, .int i), (7, .int (D_X0_count 38 s1)), (10, .ref aw)], [.int ((s 11 8 + 1) - 1), .int (s 11 8)]) (fun _ _ => rfl) hx) ?_
    refine ex_of (fun _ _ hx => rx_icT rfl (bt hsub.symm) hx) ?_
    refine ex_of (fun _ _ hx => rx_k 2 (207, [(0, .float 0), (1, .int tm), (2, .ref y), (3, .ref b), (4, .int st), (5, .int a), (6, .int i), (7, .int (D_X0_count 38 s1)), (10, .ref aw)], [.ref y, .ref y]) (fun _ _ => rfl) hx) ?_
    refine ex_of (fun _ _ hx => rx_getf rfl rfl (oc_wd hy1) rfl hx) ?_
    refine ex_of (fun _ _ hx => rx_k 1 (211, [(0, .float 0), (1, .int tm), (2, .ref y), (3, .ref b), (4, .int st), (5, .int a), (6, .int i), (7, .int (D_X0_count 38 s1)), (10, .ref aw)], [.int 3, .ref aS, .ref y]) (fun _ _ => rfl) hx) ?_
    refine ex_of (fun _ _ hx => rx_newa (a := G1.length) (h1 := (wd b w wl (G1 ++ [(.inl 0, [.int 0, .int 0, .int 0])]) t, (k1 + 1), (k2 + 3))) rfl rfl (by decide) rfl (congrArg (fun z => (z, (k1 + 1), (k2 + 3))) (wd_push hP1)) wd_len hx) ?_
    refine ex_of (fun _ _ hx => rx_k 5 (218, [(0, .float 0), (1, .int tm), (2, .ref y), (3, .ref b), (4, .int st), (5, .int a), (6, .int i), (7, .int (D_X0_count 38 s1)), (10, .ref aw)], [.int 1, .ref b, .ref b, .int 0, .ref G1.length, .ref G1.length, .ref aS, .ref y]) (fun _ _ => rfl) hx) ?_
    refine ex_of (fun _ _ hx => rx_inv rfl rfl (z_many (wok_push hP1) hNN mt_1 (md_1.trans v11)) rfl rfl rfl (q_recv (wg_0 (wok_push hP1))) rfl rfl hx) ?_
    refine ex_of (fun _ _ hx => rx_k 3 (224, [(0, .float 0), (1, .int tm), (2, .ref y), (3, .ref b), (4, .int st), (5, .int a), (6, .int i), (7, .int (D_X0_count 38 s1)), (10, .ref aw)], [.int 0, .int ((s 11 8 + 1) - 1), .ref b, .int 0, .ref G1.length, .ref G1.length, .ref aS, .ref y]) (fun _ _ => rfl) hx) ?_
    have hof := rc_X11_ofSection (sc := sc) (wl := wl) (H0 := G1 ++ [(.inl 0, [.int 0, .int 0, .int 0])]) (kn := ((k1 + 1), (k2 + 3))) (wok_push hP1) hoT
    rw [hoD] at hof
    rw [hsub]
    refine ex_of (fun _ _ hx => rx_inv rfl rfl hof rfl rfl rfl (q_recv (wg_0 (wok_push hP1))) rfl rfl hx) ?_
    refine ex_of (fun _ _ hx => rx_ist (h1 := (wd b w wl (G1 ++ [(.inl 0, [.int o, .int 0, .int 0])]) t, (k1 + 1), (k2 + 3))) rfl rfl (oc_wd (oc_top hP1)) rfl rfl (congrArg (fun z => (z, (k1 + 1), (k2 + 3))) (wd_top hP1)) hx) ?_
    refine ex_of (fun _ _ hx => rx_k 3 (232, [(0, .float 0), (1, .int tm), (2, .ref y), (3, .ref b), (4, .int st), (5, .int a), (6, .int i), (7, .int (D_X0_count 38 s1)), (10, .ref aw)], [.int 16, .int 1, .ref G1.length, .ref G1.length, .ref aS, .ref y]) (fun _ _ => rfl) hx) ?_
    refine ex_of (fun _ _ hx => rx_ist (h1 := (wd b w wl (G1 ++ [(.inl 0, [.int o, .int 16, .int 0])]) t, (k1 + 1), (k2 + 3))) rfl rfl (oc_wd (oc_top hP1)) rfl rfl (congrArg (fun z => (z, (k1 + 1), (k2 + 3))) (wd_top hP1)) hx) ?_
    refine ex_of (fun _ _ hx => rx_k 3 (236, [(0, .float 0), (1, .int tm), (2, .ref y), (3, .ref b), (4, .int st), (5, .int a), (6, .int i), (7, .int (D_X0_count 38 s1)), (10, .ref aw)], [.int 0, .int 2, .ref G1.length, .ref G1.length, .ref aS, .ref y]) (fun _ _ => rfl) hx) ?_
    refine ex_of (fun _ _ hx => rx_ist (h1 := (wd b w wl (G1 ++ [(.inl 0, [.int o, .int 16, .int 0])]) t, (k1 + 1), (k2 + 3))) rfl rfl (oc_wd (oc_top hP1)) rfl rfl (congrArg (fun z => (z, (k1 + 1), (k2 + 3))) (wd_top hP1)) hx) ?_
    have hWb := oc_push (d := ((.inl 0, [.int o, .int 16, .int 0]) : EC)) hWa
    have hr2 : Oc b w (G1 ++ [(.inl 0, [.int o, .int 16, .int 0])]) G1.length (.inl 0, [.int o, .int 16, .int 0]) := oc_top hP1
    have hP2 := wok_push (c := ((.inl 0, [.int o, .int 16, .int 0]) : EC)) hP1
    have hy2 := oc_push (d := ((.inl 0, [.int o, .int 16, .int 0]) : EC)) hy1
    have hA2 := ya_xt (xt_push (x := 9) (d := ((.inl 0, [.int o, .int 16, .int 0]) : EC))) hA1
    generalize G1 ++ [(.inl 0, [.int o, .int 16, .int 0])] = G2 at *
    obtain ⟨G3, j3, q3, hw3, ej3, ek3, el3, hP3, hx3, hoc3, hS3⟩ := yw (sc := sc) (wl := wl) (s := t) (k1 := (k1 + 1)) (k2 := (k2 + 3)) (Or.inl ⟨rfl, rfl, rfl⟩) hP2 hA2.1 (by omega) (fun i z q => by obtain ⟨u, hu⟩ := q; exact ⟨_, hu⟩) hr2
    refine ex_of (fun _ _ hx => rx_inv rfl rfl hw3 rfl rfl rfl rfl rfl rfl hx) ?_
    have hWc := hoc3 _ _ hWb
    have hyw3 := hoc3 _ _ hy2
    have hAw3 := ya_xt hx3 hA2
    generalize G2.length = aT at *
    have hset4 : ((wd b w wl G3 t).set y (.inr 12, (.ref b :: .float 0 :: .int d1 :: .int 5 :: .ref aS :: .ref aP :: .ref aD :: .ref aI :: rest).set 4 (.ref aT)), j3, q3) = (wd b w wl (G3.set y (yc b d1 5 aT aP aD aI rest)) t, j3, q3) := congrArg (fun z => (z, j3, q3)) (wd_oset hP3 hyw3.1)
    refine ex_of (fun _ _ hx => rx_putf rfl rfl (oc_wd hyw3) (by show (true && decide (4 < rest.length + 8)) = true; rw [decide_eq_true (by omega)]; rfl) hset4 hx) ?_
    have hxy4 : Xt 9 b w G3 w (G3.set y (yc b d1 5 aT aP aD aI rest)) := xt_obj (k := 12) hyw3
    have hWd := hxy4 _ _ _ (by decide) hWc
    have hy4 : Oc b w (G3.set y (yc b d1 5 aT aP aD aI rest)) y (yc b d1 5 aT aP aD aI rest) := oc_self hyw3
    have hP4 := wok_set (a := y) (c := yc b d1 5 aT aP aD aI rest) hP3
    have hA4 := ya_xt hxy4 hAw3
    have hS4 := aa_xt (Q := fun a z => (a < (s 11 8).toInt.toNat ∧ Row1 b w (G3.set y (yc b d1 5 aT aP aD aI rest)) z (s 12 a)) ∨ (a = (s 11 8).toInt.toNat ∧ Row1 b w (G3.set y (yc b d1 5 aT aP aD aI rest)) z o)) (by decide) hxy4 hS3 (fun a z q => by
      rcases q with ⟨q1, q2⟩ | ⟨q1, q2⟩
      · exact Or.inl ⟨q1, row1_xt (by decide) (xt_trans hx3 hxy4) q2⟩
      · exact Or.inr ⟨q1, row1_xt (by decide) (xt_trans hx3 hxy4) ⟨_, q2 ▸ hr2⟩⟩)
    generalize G3.set y (yc b d1 5 aT aP aD aI rest) = G4 at *
    refine ex_of (fun _ _ hx => rx_k 2 (245, [(0, .float 0), (1, .int tm), (2, .ref y), (3, .ref b), (4, .int st), (5, .int a), (6, .int i), (7, .int (D_X0_count 38 s1)), (10, .ref aw)], [.ref y, .ref y]) (fun _ _ => rfl) hx) ?_
    refine ex_of (fun _ _ hx => rx_getf rfl rfl (oc_wd hy4) rfl hx) ?_
    refine ex_of (fun _ _ hx => rx_k 1 (249, [(0, .float 0), (1, .int tm), (2, .ref y), (3, .ref b), (4, .int st), (5, .int a), (6, .int i), (7, .int (D_X0_count 38 s1)), (10, .ref aw)], [.int 0, .ref aP, .ref y]) (fun _ _ => rfl) hx) ?_
    refine ex_of (fun _ _ hx => rx_newq (a := G4.length) (h1 := (wd b w wl (G4 ++ [(.inl 3, [])]) t, j3 + 1, q3 + 0)) rfl rfl (by decide) rfl (congrArg (fun z => (z, j3 + 1, q3 + 0)) (wd_push hP4)) wd_len hx) ?_
    have hr5 : Oc b w (G4 ++ [(.inl 3, [])]) G4.length (.inl 3, []) := oc_top hP4
    have hWe := oc_push (d := ((.inl 3, []) : EC)) hWd
    have hP5 := wok_push (c := ((.inl 3, []) : EC)) hP4
    have hy5 := oc_push (d := ((.inl 3, []) : EC)) hy4
    have hA5 := ya_xt (xt_push (x := 9) (d := ((.inl 3, []) : EC))) hA4
    have hS5 := aa_xt (Q := fun a z => (a < (s 11 8).toInt.toNat ∧ Row1 b w (G4 ++ [(.inl 3, [])]) z (s 12 a)) ∨ (a = (s 11 8).toInt.toNat ∧ Row1 b w (G4 ++ [(.inl 3, [])]) z o)) (by decide) (xt_push (x := 9) (d := ((.inl 3, []) : EC))) hS4 (fun a z q => by
      rcases q with ⟨q1, q2⟩ | ⟨q1, q2⟩
      · exact Or.inl ⟨q1, row1_xt (by decide) (xt_push (x := 9)) q2⟩
      · exact Or.inr ⟨q1, row1_xt (by decide) (xt_push (x := 9)) q2⟩)
    generalize G4.length = aE at *
    generalize G4 ++ [(.inl 3, [])] = G5 at *
    obtain ⟨G6, j6, q6, hw6, ej6, ek6, el6, hP6, hx6, hoc6, hN6⟩ := yw (sc := sc) (wl := wl) (s := t) (k1 := (j3 + 1)) (k2 := (q3 + 0)) (Or.inr ⟨rfl, rfl, rfl⟩) hP5 hA5.2.1 (by omega) (fun i z q => by obtain ⟨u, hu, _⟩ := q; exact ⟨_, hu⟩) hr5
    refine ex_of (fun _ _ hx => rx_inv rfl rfl hw6 rfl rfl rfl rfl rfl rfl hx) ?_
    have hy6 := hoc6 _ _ hy5
    have hWf := hoc6 _ _ hWe
    have hA6 := ya_xt hx6 hA5
    have hS6 := aa_xt (Q := fun a z => (a < (s 11 8).toInt.toNat ∧ Row1 b w G6 z (s 12 a)) ∨ (a = (s 11 8).toInt.toNat ∧ Row1 b w G6 z o)) (by decide) hx6 hS5 (fun a z q => by
      rcases q with ⟨q1, q2⟩ | ⟨q1, q2⟩
      · exact Or.inl ⟨q1, row1_xt (by decide) hx6 q2⟩
      · exact Or.inr ⟨q1, row1_xt (by decide) hx6 q2⟩)
    have hE6 := hoc6 _ _ hr5
    generalize G5.length = aQ at *
    have hset7 : ((wd b w wl G6 t).set y (.inr 12, (.ref b :: .float 0 :: .int d1 :: .int 5 :: .ref aT :: .ref aP :: .ref aD :: .ref aI :: rest).set 5 (.ref aQ)), j6, q6) = (wd b w wl (G6.set y (yc b d1 5 aT aQ aD aI rest)) t, j6, q6) := congrArg (fun z => (z, j6, q6)) (wd_oset hP6 hy6.1)
    refine ex_of (fun _ _ hx => rx_putf rfl rfl (oc_wd hy6) (by show (true && decide (5 < rest.length + 8)) = true; rw [decide_eq_true (by omega)]; rfl) hset7 hx) ?_
    have hxy7 : Xt 9 b w G6 w (G6.set y (yc b d1 5 aT aQ aD aI rest)) := xt_obj (k := 12) hy6
    have hWg := hxy7 _ _ _ (by decide) hWf
    have hy7 : Oc b w (G6.set y (yc b d1 5 aT aQ aD aI rest)) y (yc b d1 5 aT aQ aD aI rest) := oc_self hy6
    have hP7 := wok_set (a := y) (c := yc b d1 5 aT aQ aD aI rest) hP6
    have hA7 := ya_xt hxy7 hA6
    have hxx7 := xt_trans hx6 hxy7
    have hE7 := hxy7 _ _ _ (by decide) hE6
    have hS7 := aa_xt (Q := fun a z => (a < (s 11 8).toInt.toNat ∧ Row1 b w (G6.set y (yc b d1 5 aT aQ aD aI rest)) z (s 12 a)) ∨ (a = (s 11 8).toInt.toNat ∧ Row1 b w (G6.set y (yc b d1 5 aT aQ aD aI rest)) z o)) (by decide) hxy7 hS6 (fun a z q => by
      rcases q with ⟨q1, q2⟩ | ⟨q1, q2⟩
      · exact Or.inl ⟨q1, row1_xt (by decide) hxy7 q2⟩
      · exact Or.inr ⟨q1, row1_xt (by decide) hxy7 q2⟩)
    have hN7 := aa_xt (Q := fun a z => (a < (s 11 8).toInt.toNat ∧ Aa b w (G6.set y (yc b d1 5 aT aQ aD aI rest)) z 3 (s 15 a).toInt.toNat (fun _ u => Row0 b w (G6.set y (yc b d1 5 aT aQ aD aI rest)) u)) ∨ (a = (s 11 8).toInt.toNat ∧ Oc b w (G6.set y (yc b d1 5 aT aQ aD aI rest)) z (.inl 3, []))) (by decide) hxy7 hN6 (fun a z q => by
      rcases q with ⟨q1, q2⟩ | ⟨q1, q2⟩
      · exact Or.inl ⟨q1, aa_xt (by decide) hxx7 q2 (fun _ u r => row0_xt (by decide) hxx7 r)⟩
      · exact Or.inr ⟨q1, q2 ▸ hE7⟩)
    generalize G6.set y (yc b d1 5 aT aQ aD aI rest) = G7 at *
    have hpz := ti.pz (s 11 8).toInt.toNat (by omega)
    have hYa : Ya b w G7 t nd dO dN aT aQ aD aI := by
      refine ⟨aa_cg hS7 (by rw [v11, hi]; omega) (fun i r _ q => ?_), aa_cg hN7 (by rw [v11, hi]; omega) (fun i r _ q => ?_), hA7.2.2.1, aa_cg hA7.2.2.2 (by rw [vf _ _ (by decide) (by decide) (by decide) (by decide)]) (fun _ _ _ q => q)⟩
      · rw [v12]
        rcases q with ⟨q1, q2⟩ | ⟨q1, q2⟩
        · rw [if_neg (by omega)]; exact q2
        · rw [if_pos (by omega)]; exact q2
      · show Aa b w G7 r 3 (t 15 i).toInt.toNat (fun _ u => Row0 b w G7 u)
        rw [vf _ _ (by decide) (by decide) (by decide) (by decide)]
        rcases q with ⟨q1, q2⟩ | ⟨q1, q2⟩
        · exact q2
        · rw [q1, hpz]; exact ⟨[], q2, rfl, fun i hi => absurd hi (Nat.not_lt_zero i)⟩
    have h16 : (16 : Int32).toInt = 16 := rfl
    have hYb : Yb b y w wl G7 t j6 q6 (m + 20) (c + 15) e 5 5 := by
      refine ⟨hP7, hY.w1, hNN, by omega, by omega, tI.le (by omega), l0_of hY.lib (fun k j hk1 hk2 _ => vf k j (by omega) (by omega) (by omega) (by omega)), ?_, ?_, ?_, d1, aT, aQ, aD, aI, rest, nd, dO, dN, hy7, by omega, by omega, hnd, hDC.of (fun o _ => vf _ _ (by decide) (by decide) (by decide) (by decide)), hYa⟩
      · rw [vf _ _ (by decide) (by decide) (by decide) (by decide)]; exact hY.lc
      · rw [vf _ _ (by decide) (by decide) (by decide) (by decide), vf _ _ (by decide) (by decide) (by decide) (by decide)]; exact hY.rl
      · rw [vf _ _ (by decide) (by decide) (by decide) (by decide)]; exact hY.o5
    have hZ : Zw b y w wl G7 t j6 q6 (m + 20) (c + 15) e s0 s1 N aw := ⟨hYb, htb, hWg, by rw [cl_cg2 (s := s) (fun k j q1 q2 => vf k j (by omega) (by omega) (by omega) (by omega))]; exact hl⟩
    obtain ⟨w2, wl2, H2, s2, x1, x2, r1, r2, r3, r4, r5, r6, r7⟩ := zw_link (sc := sc) hf hZ
    refine ex_of (fun _ _ hx => rx_k 3 (263, [(0, .float 0), (1, .int tm), (2, .ref y), (3, .ref b), (4, .int st), (5, .int a), (6, .int i), (7, .int (D_X0_count 38 s1)), (10, .ref aw)], [.int i, .int a, .ref b]) (fun _ _ => rfl) hx) ?_
    refine ex_of (fun _ _ hx => rx_inv rfl rfl r1 rfl rfl rfl (q_recv (wg_0 hP7)) rfl rfl hx) ?_
    refine ex_of (fun _ _ hx => rx_k 1 (268, [(0, .float 0), (1, .int tm), (2, .ref y), (3, .ref b), (4, .int st), (5, .int a), (6, .int i), (7, .int (D_X0_count 38 s1)), (10, .ref aw)], [.int (D_X0_count 38 s1), .int (D_X0_count 38 s1)]) (fun _ _ => rfl) hx) ?_
    refine ex_of (fun _ _ hx => rx_icF rfl (nf rfl) rfl hx) ?_
    refine ex_of (fun _ _ hx => rx_k 2 (274, [(0, .float 0), (1, .int tm), (2, .ref y), (3, .ref b), (4, .int st), (5, .int a), (6, .int i), (7, .int (D_X0_count 38 s1)), (10, .ref aw)], [.ref aw, .ref b]) (fun _ _ => rfl) hx) ?_
    refine ex_of (fun _ _ hx => rx_inv rfl rfl r3 rfl rfl rfl rfl rfl rfl hx) ?_
    refine ex_of (fun _ _ hx => rx_ifT rfl (nt (by decide)) hx) ?_
    exact cont w2 wl2 H2 s2 x1 x2 (r2.le (by omega) (Int.le_refl _)) (by omega) (by omega)
end L2S
