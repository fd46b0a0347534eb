section DD
variable {sc : Nat × (Nat → Int32)} {b w wl : Nat} {H0 : List EC} {kn : Nat × Nat}
-- LinkHarbour.object
noncomputable def D_X11_object (s : Sg) : Int32 × Sg := (if (D_X6_isFull s) = 0 then ((D_X6_add s).1, (D_X6_add s).2) else (0, s))
noncomputable def T_X11_object (s : Sg) : Bool := (if (D_X6_isFull s) = 0 then true else false)
theorem m_X11_object (hP : WOK b w H0) {s : Sg} (hN : NN s) (hT : T_X11_object s = true) : Rx sc g_X11_object 1 ((0, [(0, .ref b)], [])) (wd b w wl H0 s, kn) (some (.int (D_X11_object s).1)) (wd b w wl H0 (D_X11_object s).2, kn) := by
  show Rx sc g_X11_object 1 (0, [(0, .ref b)], []) (wd b w wl H0 s, kn) (some (.int (D_X11_object s).1)) (wd b w wl H0 (D_X11_object s).2, kn)
  refine rx_k 1 (1, [(0, .ref b)], [.ref b]) (fun _ _ => rfl) ?_
  refine rx_getf rfl rfl (wg_0 hP) rfl ?_
  refine rx_inv rfl rfl (rc_X6_isFull hP) rfl rfl rfl (q_recv (wg_1 hP)) rfl rfl ?_
  by_cases c0 : (D_X6_isFull s) = 0
  · refine rx_ifT rfl (bt c0) ?_
    refine rx_k 1 (21, [(0, .ref b)], [.ref b]) (fun _ _ => rfl) ?_
    refine rx_getf rfl rfl (wg_0 hP) rfl ?_
    refine rx_inv rfl rfl (rc_X6_add hP hN) rfl rfl rfl (q_recv (wg_1 hP)) rfl rfl ?_
    rw [(show (D_X11_object s) = ((D_X6_add s).1, (D_X6_add s).2) from ((if_pos c0).trans rfl))]
    exact rx_ri rfl
  · refine rx_ifF rfl (bf c0) rfl ?_
    rw [(show T_X11_object s = false from ((if_neg c0).trans rfl))] at hT
    cases hT
theorem rc_X11_object (hP : WOK b w H0) {s : Sg} (hN : NN s) (hT : T_X11_object s = true) : Rc sc 2 159 [.ref b] (wd b w wl H0 s, kn) (some (.int (D_X11_object s).1)) (wd b w wl H0 (D_X11_object s).2, kn) := rx_mc (m_X11_object hP hN hT) rfl rfl (Nat.ble_eq_true_of_le (Nat.le_refl _)) (Nat.ble_eq_true_of_le (Nat.le_refl _))
theorem nn_X11_object {s : Sg} (hN : NN s) : NN (D_X11_object s).2 := by
  by_cases c0 : (D_X6_isFull s) = 0
  · exact pair_of (P := fun zs => NN zs) (show (D_X11_object s) = ((D_X6_add s).1, (D_X6_add s).2) from ((if_pos c0).trans rfl)) (nn_X6_add hN)
  · exact pair_of (P := fun zs => NN zs) (show (D_X11_object s) = (0, s) from ((if_neg c0).trans rfl)) hN
theorem fw_X11_object {s : Sg} {k j : Nat} (h1f9 : k ≠ 1 ∨ j ≠ 9) : (D_X11_object s).2 k j = s k j := by
  by_cases c0 : (D_X6_isFull s) = 0
  · exact pair_of (P := fun zs => zs k j = s k j) (show (D_X11_object s) = ((D_X6_add s).1, (D_X6_add s).2) from ((if_pos c0).trans rfl)) ((fw_X6_add h1f9).trans rfl)
  · exact pair_of (P := fun zs => zs k j = s k j) (show (D_X11_object s) = (0, s) from ((if_neg c0).trans rfl)) rfl
-- LinkHarbour.isAlign
noncomputable def D_X11_isAlign (a0 : Int32) : Int32 := (if a0 = 1 then 1 else (if a0 = 2 then 1 else (if a0 = 4 then 1 else (if a0 = 8 then 1 else (if a0 = 16 then 1 else 0)))))
theorem m_X11_isAlign {hh : EH} {a0 : Int32} : Rx sc g_X11_isAlign 0 ((0, [(0, .int a0)], [])) hh (some (.int (D_X11_isAlign a0))) hh := by
  show Rx sc g_X11_isAlign 0 (0, [(0, .int a0)], []) hh (some (.int (D_X11_isAlign a0))) hh
  refine rx_k 2 (2, [(0, .int a0)], [.int 1, .int a0]) (fun _ _ => rfl) ?_
  by_cases c0 : a0 = 1
  · refine rx_icT rfl (bt c0) ?_
    refine rx_k 2 (32, [(0, .int a0)], [.int 1]) (fun _ _ => rfl) ?_
    rw [(show (D_X11_isAlign a0) = 1 from ((if_pos c0).trans rfl))]
    exact rx_ri rfl
  · refine rx_icF rfl (bf c0) rfl ?_
    refine rx_k 2 (7, [(0, .int a0)], [.int 2, .int a0]) (fun _ _ => rfl) ?_
    by_cases c1 : a0 = 2
    · refine rx_icT rfl (bt c1) ?_
      refine rx_k 2 (32, [(0, .int a0)], [.int 1]) (fun _ _ => rfl) ?_
      rw [(show (D_X11_isAlign a0) = 1 from ((if_neg c0).trans ((if_pos c1).trans rfl)))]
      exact rx_ri rfl
    · refine rx_icF rfl (bf c1) rfl ?_
      refine rx_k 2 (12, [(0, .int a0)], [.int 4, .int a0]) (fun _ _ => rfl) ?_
      by_cases c2 : a0 = 4
      · refine rx_icT rfl (bt c2) ?_
        refine rx_k 2 (32, [(0, .int a0)], [.int 1]) (fun _ _ => rfl) ?_
        rw [(show (D_X11_isAlign a0) = 1 from ((if_neg c0).trans ((if_neg c1).trans ((if_pos c2).trans rfl))))]
        exact rx_ri rfl
      · refine rx_icF rfl (bf c2) rfl ?_
        refine rx_k 2 (18, [(0, .int a0)], [.int 8, .int a0]) (fun _ _ => rfl) ?_
        by_cases c3 : a0 = 8
        · refine rx_icT rfl (bt c3) ?_
          refine rx_k 2 (32, [(0, .int a0)], [.int 1]) (fun _ _ => rfl) ?_
          rw [(show (D_X11_isAlign a0) = 1 from ((if_neg c0).trans ((if_neg c1).trans ((if_neg c2).trans ((if_pos c3).trans rfl)))))]
          exact rx_ri rfl
        · refine rx_icF rfl (bf c3) rfl ?_
          refine rx_k 2 (24, [(0, .int a0)], [.int 16, .int a0]) (fun _ _ => rfl) ?_
          by_cases c4 : a0 = 16
          · refine rx_icF rfl (nf c4) rfl ?_
            refine rx_k 2 (32, [(0, .int a0)], [.int 1]) (fun _ _ => rfl) ?_
            rw [(show (D_X11_isAlign a0) = 1 from ((if_neg c0).trans ((if_neg c1).trans ((if_neg c2).trans ((if_neg c3).trans ((if_pos c4).trans rfl))))))]
            exact rx_ri rfl
          · refine rx_icT rfl (nt c4) ?_
            refine rx_k 1 (32, [(0, .int a0)], [.int 0]) (fun _ _ => rfl) ?_
            rw [(show (D_X11_isAlign a0) = 0 from ((if_neg c0).trans ((if_neg c1).trans ((if_neg c2).trans ((if_neg c3).trans ((if_neg c4).trans rfl))))))]
            exact rx_ri rfl
theorem bz_X11_isAlign {a0 : Int32} : bz (D_X11_isAlign a0) = true := by
  by_cases c0 : a0 = 1
  · rw [show (D_X11_isAlign a0) = 1 from ((if_pos c0).trans rfl)]
    exact rfl
  · by_cases c1 : a0 = 2
    · rw [show (D_X11_isAlign a0) = 1 from ((if_neg c0).trans ((if_pos c1).trans rfl))]
      exact rfl
    · by_cases c2 : a0 = 4
      · rw [show (D_X11_isAlign a0) = 1 from ((if_neg c0).trans ((if_neg c1).trans ((if_pos c2).trans rfl)))]
        exact rfl
      · by_cases c3 : a0 = 8
        · rw [show (D_X11_isAlign a0) = 1 from ((if_neg c0).trans ((if_neg c1).trans ((if_neg c2).trans ((if_pos c3).trans rfl))))]
          exact rfl
        · by_cases c4 : a0 = 16
          · rw [show (D_X11_isAlign a0) = 1 from ((if_neg c0).trans ((if_neg c1).trans ((if_neg c2).trans ((if_neg c3).trans ((if_pos c4).trans rfl)))))]
            exact rfl
          · rw [show (D_X11_isAlign a0) = 0 from ((if_neg c0).trans ((if_neg c1).trans ((if_neg c2).trans ((if_neg c3).trans ((if_neg c4).trans rfl)))))]
            exact rfl
theorem rc_X11_isAlign {hh : EH} {a0 : Int32} : Rc sc 1 194 [.int a0] hh (some (.int (D_X11_isAlign a0))) hh := rx_mc (m_X11_isAlign) rfl (bz_X11_isAlign ..) (Nat.ble_eq_true_of_le (Nat.le_refl _)) (Nat.ble_eq_true_of_le (Nat.le_refl _))
-- LinkHarbour.section
noncomputable def D_X11_section (s : Sg) (a1 : Int32) (a2 : Int32) (a3 : Int32) : Int32 × Sg := (if (D_X6_has s a1) = 0 then (0, s) else (if (D_X11_isAlign a2) = 0 then (0, s) else (if (D_X8_isFull s) = 0 then ((D_X8_add s a1 a2 a3).1, (D_X8_add s a1 a2 a3).2) else (0, s))))
noncomputable def T_X11_section (s : Sg) (a1 : Int32) (a2 : Int32) (a3 : Int32) : Bool := (if (D_X6_has s a1) = 0 then false else (if (D_X11_isAlign a2) = 0 then false else (if (D_X8_isFull s) = 0 then true else false)))
theorem m_X11_section (hP : WOK b w H0) {s : Sg} {a1 : Int32} {a2 : Int32} {a3 : Int32} (hN : NN s) (za3 : bz a3 = true) (hT : T_X11_section s a1 a2 a3 = true) : Rx sc g_X11_section 2 ((0, [(0, .ref b), (1, .int a1), (2, .int a2), (3, .int a3)], [])) (wd b w wl H0 s, kn) (some (.int (D_X11_section s a1 a2 a3).1)) (wd b w wl H0 (D_X11_section s a1 a2 a3).2, kn) := by
  show Rx sc g_X11_section 2 (0, [(0, .ref b), (1, .int a1), (2, .int a2), (3, .int a3)], []) (wd b w wl H0 s, kn) (some (.int (D_X11_section s a1 a2 a3).1)) (wd b w wl H0 (D_X11_section s a1 a2 a3).2, kn)
  refine rx_k 1 (1, [(0, .ref b), (1, .int a1), (2, .int a2), (3, .int a3)], [.ref b]) (fun _ _ => rfl) ?_
  refine rx_getf rfl rfl (wg_0 hP) rfl ?_
  refine rx_k 1 (5, [(0, .ref b), (1, .int a1), (2, .int a2), (3, .int a3)], [.int a1, .ref (b + 1)]) (fun _ _ => rfl) ?_
  refine rx_inv rfl rfl (rc_X6_has hP) rfl rfl rfl (q_recv (wg_1 hP)) rfl rfl ?_
  by_cases c0 : (D_X6_has s a1) = 0
  · refine rx_ifF rfl (nf c0) rfl ?_
    rw [(show T_X11_section s a1 a2 a3 = false from ((if_pos c0).trans rfl))] at hT
    cases hT
  · refine rx_ifT rfl (nt c0) ?_
    refine rx_k 1 (22, [(0, .ref b), (1, .int a1), (2, .int a2), (3, .int a3)], [.int a2]) (fun _ _ => rfl) ?_
    refine rx_inv rfl rfl (rc_X11_isAlign) rfl rfl rfl rfl rfl rfl ?_
    by_cases c1 : (D_X11_isAlign a2) = 0
    · refine rx_ifF rfl (nf c1) rfl ?_
      rw [(show T_X11_section s a1 a2 a3 = false from ((if_neg c0).trans ((if_pos c1).trans rfl)))] at hT
      cases hT
    · refine rx_ifT rfl (nt c1) ?_
      refine rx_k 1 (39, [(0, .ref b), (1, .int a1), (2, .int a2), (3, .int a3)], [.ref b]) (fun _ _ => rfl) ?_
      refine rx_getf rfl rfl (wg_0 hP) rfl ?_
      refine rx_inv rfl rfl (rc_X8_isFull hP) rfl rfl rfl (q_recv (wg_11 hP)) rfl rfl ?_
      by_cases c2 : (D_X8_isFull s) = 0
      · refine rx_ifT rfl (bt c2) ?_
        refine rx_k 1 (59, [(0, .ref b), (1, .int a1), (2, .int a2), (3, .int a3)], [.ref b]) (fun _ _ => rfl) ?_
        refine rx_getf rfl rfl (wg_0 hP) rfl ?_
        refine rx_k 3 (65, [(0, .ref b), (1, .int a1), (2, .int a2), (3, .int a3)], [.int a3, .int a2, .int a1, .ref (b + 11)]) (fun _ _ => rfl) ?_
        refine rx_inv rfl rfl (rc_X8_add hP hN za3) rfl rfl rfl (q_recv (wg_11 hP)) rfl rfl ?_
        rw [(show (D_X11_section s a1 a2 a3) = ((D_X8_add s a1 a2 a3).1, (D_X8_add s a1 a2 a3).2) from ((if_neg c0).trans ((if_neg c1).trans ((if_pos c2).trans rfl))))]
        exact rx_ri rfl
      · refine rx_ifF rfl (bf c2) rfl ?_
        rw [(show T_X11_section s a1 a2 a3 = false from ((if_neg c0).trans ((if_neg c1).trans ((if_neg c2).trans rfl))))] at hT
        cases hT
theorem rc_X11_section (hP : WOK b w H0) {s : Sg} {a1 : Int32} {a2 : Int32} {a3 : Int32} (hN : NN s) (za3 : bz a3 = true) (hT : T_X11_section s a1 a2 a3 = true) : Rc sc 3 160 [.ref b, .int a1, .int a2, .int a3] (wd b w wl H0 s, kn) (some (.int (D_X11_section s a1 a2 a3).1)) (wd b w wl H0 (D_X11_section s a1 a2 a3).2, kn) := rx_mc (m_X11_section hP hN za3 hT) rfl rfl (Nat.ble_eq_true_of_le (Nat.le_refl _)) (Nat.ble_eq_true_of_le (Nat.le_refl _))
theorem nn_X11_section {s : Sg} {a1 : Int32} {a2 : Int32} {a3 : Int32} (hN : NN s) : NN (D_X11_section s a1 a2 a3).2 := by
  by_cases c0 : (D_X6_has s a1) = 0
  · exact pair_of (P := fun zs => NN zs) (show (D_X11_section s a1 a2 a3) = (0, s) from ((if_pos c0).trans rfl)) hN
  · by_cases c1 : (D_X11_isAlign a2) = 0
    · exact pair_of (P := fun zs => NN zs) (show (D_X11_section s a1 a2 a3) = (0, s) from ((if_neg c0).trans ((if_pos c1).trans rfl))) hN
    · by_cases c2 : (D_X8_isFull s) = 0
      · exact pair_of (P := fun zs => NN zs) (show (D_X11_section s a1 a2 a3) = ((D_X8_add s a1 a2 a3).1, (D_X8_add s a1 a2 a3).2) from ((if_neg c0).trans ((if_neg c1).trans ((if_pos c2).trans rfl)))) (nn_X8_add hN)
      · exact pair_of (P := fun zs => NN zs) (show (D_X11_section s a1 a2 a3) = (0, s) from ((if_neg c0).trans ((if_neg c1).trans ((if_neg c2).trans rfl)))) hN
theorem fw_X11_section {s : Sg} {a1 : Int32} {a2 : Int32} {a3 : Int32} {k j : Nat} (h11f8 : k ≠ 11 ∨ j ≠ 8) (h12 : k ≠ 12) (h13 : k ≠ 13) (h14 : k ≠ 14) : (D_X11_section s a1 a2 a3).2 k j = s k j := by
  by_cases c0 : (D_X6_has s a1) = 0
  · exact pair_of (P := fun zs => zs k j = s k j) (show (D_X11_section s a1 a2 a3) = (0, s) from ((if_pos c0).trans rfl)) rfl
  · by_cases c1 : (D_X11_isAlign a2) = 0
    · exact pair_of (P := fun zs => zs k j = s k j) (show (D_X11_section s a1 a2 a3) = (0, s) from ((if_neg c0).trans ((if_pos c1).trans rfl))) rfl
    · by_cases c2 : (D_X8_isFull s) = 0
      · exact pair_of (P := fun zs => zs k j = s k j) (show (D_X11_section s a1 a2 a3) = ((D_X8_add s a1 a2 a3).1, (D_X8_add s a1 a2 a3).2) from ((if_neg c0).trans ((if_neg c1).trans ((if_pos c2).trans rfl)))) ((fw_X8_add h11f8 h12 h13 h14).trans rfl)
      · exact pair_of (P := fun zs => zs k j = s k j) (show (D_X11_section s a1 a2 a3) = (0, s) from ((if_neg c0).trans ((if_neg c1).trans ((if_neg c2).trans rfl)))) rfl
-- LinkHarbour.fill
noncomputable def D_X11_fill (s : Sg) (a1 : Int32) (a2 : Int32) : Int32 × Sg := (if (D_X8_has s a1) = 0 then (0, s) else (if a2 < 1 then (0, s) else (if a2 ≤ 40 then (if (D_X8_isFilled s a1) = 0 then ((D_X8_addPiece s a1 0 a2 0 0).1, (D_X8_addPiece s a1 0 a2 0 0).2) else (0, s)) else (0, s))))
noncomputable def T_X11_fill (s : Sg) (a1 : Int32) (a2 : Int32) : Bool := (if (D_X8_has s a1) = 0 then false else (if a2 < 1 then false else (if a2 ≤ 40 then (if (D_X8_isFilled s a1) = 0 then true else false) else false)))
theorem m_X11_fill (hP : WOK b w H0) {s : Sg} {a1 : Int32} {a2 : Int32} (hN : NN s) (hT : T_X11_fill s a1 a2 = true) : Rx sc g_X11_fill 4 ((0, [(0, .ref b), (1, .int a1), (2, .int a2)], [])) (wd b w wl H0 s, kn) (some (.int (D_X11_fill s a1 a2).1)) (wd b w wl H0 (D_X11_fill s a1 a2).2, kn) := by
  show Rx sc g_X11_fill 4 (0, [(0, .ref b), (1, .int a1), (2, .int a2)], []) (wd b w wl H0 s, kn) (some (.int (D_X11_fill s a1 a2).1)) (wd b w wl H0 (D_X11_fill s a1 a2).2, kn)
  refine rx_k 1 (1, [(0, .ref b), (1, .int a1), (2, .int a2)], [.ref b]) (fun _ _ => rfl) ?_
  refine rx_getf rfl rfl (wg_0 hP) rfl ?_
  refine rx_k 1 (5, [(0, .ref b), (1, .int a1), (2, .int a2)], [.int a1, .ref (b + 11)]) (fun _ _ => rfl) ?_
  refine rx_inv rfl rfl (rc_X8_has hP) rfl rfl rfl (q_recv (wg_11 hP)) rfl rfl ?_
  by_cases c0 : (D_X8_has s a1) = 0
  · refine rx_ifF rfl (nf c0) rfl ?_
    rw [(show T_X11_fill s a1 a2 = false from ((if_pos c0).trans rfl))] at hT
    cases hT
  · refine rx_ifT rfl (nt c0) ?_
    refine rx_k 2 (23, [(0, .ref b), (1, .int a1), (2, .int a2)], [.int 1, .int a2]) (fun _ _ => rfl) ?_
    by_cases c1 : a2 < 1
    · refine rx_icT rfl (bt c1) ?_
      rw [(show T_X11_fill s a1 a2 = false from ((if_neg c0).trans ((if_pos c1).trans rfl)))] at hT
      cases hT
    · refine rx_icF rfl (bf c1) rfl ?_
      refine rx_k 2 (29, [(0, .ref b), (1, .int a1), (2, .int a2)], [.int 40, .int a2]) (fun _ _ => rfl) ?_
      by_cases c2 : a2 ≤ 40
      · refine rx_icT rfl (bt c2) ?_
        refine rx_k 1 (43, [(0, .ref b), (1, .int a1), (2, .int a2)], [.ref b]) (fun _ _ => rfl) ?_
        refine rx_getf rfl rfl (wg_0 hP) rfl ?_
        refine rx_k 1 (47, [(0, .ref b), (1, .int a1), (2, .int a2)], [.int a1, .ref (b + 11)]) (fun _ _ => rfl) ?_
        refine rx_inv rfl rfl (rc_X8_isFilled hP) rfl rfl rfl (q_recv (wg_11 hP)) rfl rfl ?_
        by_cases c3 : (D_X8_isFilled s a1) = 0
        · refine rx_ifT rfl (bt c3) ?_
          refine rx_k 1 (64, [(0, .ref b), (1, .int a1), (2, .int a2)], [.ref b]) (fun _ _ => rfl) ?_
          refine rx_getf rfl rfl (wg_0 hP) rfl ?_
          refine rx_k 5 (72, [(0, .ref b), (1, .int a1), (2, .int a2)], [.int 0, .int 0, .int a2, .int 0, .int a1, .ref (b + 11)]) (fun _ _ => rfl) ?_
          refine rx_inv rfl rfl (rc_X8_addPiece hP hN rfl) rfl rfl rfl (q_recv (wg_11 hP)) rfl rfl ?_
          rw [(show (D_X11_fill s a1 a2) = ((D_X8_addPiece s a1 0 a2 0 0).1, (D_X8_addPiece s a1 0 a2 0 0).2) from ((if_neg c0).trans ((if_neg c1).trans ((if_pos c2).trans ((if_pos c3).trans rfl)))))]
          exact rx_ri rfl
        · refine rx_ifF rfl (bf c3) rfl ?_
          rw [(show T_X11_fill s a1 a2 = false from ((if_neg c0).trans ((if_neg c1).trans ((if_pos c2).trans ((if_neg c3).trans rfl)))))] at hT
          cases hT
      · refine rx_icF rfl (bf c2) rfl ?_
        rw [(show T_X11_fill s a1 a2 = false from ((if_neg c0).trans ((if_neg c1).trans ((if_neg c2).trans rfl))))] at hT
        cases hT
theorem rc_X11_fill (hP : WOK b w H0) {s : Sg} {a1 : Int32} {a2 : Int32} (hN : NN s) (hT : T_X11_fill s a1 a2 = true) : Rc sc 5 161 [.ref b, .int a1, .int a2] (wd b w wl H0 s, kn) (some (.int (D_X11_fill s a1 a2).1)) (wd b w wl H0 (D_X11_fill s a1 a2).2, kn) := rx_mc (m_X11_fill hP hN hT) rfl rfl (Nat.ble_eq_true_of_le (Nat.le_refl _)) (Nat.ble_eq_true_of_le (Nat.le_refl _))
theorem nn_X11_fill {s : Sg} {a1 : Int32} {a2 : Int32} (hN : NN s) : NN (D_X11_fill s a1 a2).2 := by
  by_cases c0 : (D_X8_has s a1) = 0
  · exact pair_of (P := fun zs => NN zs) (show (D_X11_fill s a1 a2) = (0, s) from ((if_pos c0).trans rfl)) hN
  · by_cases c1 : a2 < 1
    · exact pair_of (P := fun zs => NN zs) (show (D_X11_fill s a1 a2) = (0, s) from ((if_neg c0).trans ((if_pos c1).trans rfl))) hN
    · by_cases c2 : a2 ≤ 40
      · by_cases c3 : (D_X8_isFilled s a1) = 0
        · exact pair_of (P := fun zs => NN zs) (show (D_X11_fill s a1 a2) = ((D_X8_addPiece s a1 0 a2 0 0).1, (D_X8_addPiece s a1 0 a2 0 0).2) from ((if_neg c0).trans ((if_neg c1).trans ((if_pos c2).trans ((if_pos c3).trans rfl))))) (nn_X8_addPiece hN)
        · exact pair_of (P := fun zs => NN zs) (show (D_X11_fill s a1 a2) = (0, s) from ((if_neg c0).trans ((if_neg c1).trans ((if_pos c2).trans ((if_neg c3).trans rfl))))) hN
      · exact pair_of (P := fun zs => NN zs) (show (D_X11_fill s a1 a2) = (0, s) from ((if_neg c0).trans ((if_neg c1).trans ((if_neg c2).trans rfl)))) hN
theorem fw_X11_fill {s : Sg} {a1 : Int32} {a2 : Int32} {k j : Nat} (h15 : k ≠ 15) (h16 : k ≠ 16) (h17 : k ≠ 17) (h18 : k ≠ 18) (h19 : k ≠ 19) : (D_X11_fill s a1 a2).2 k j = s k j := by
  by_cases c0 : (D_X8_has s a1) = 0
  · exact pair_of (P := fun zs => zs k j = s k j) (show (D_X11_fill s a1 a2) = (0, s) from ((if_pos c0).trans rfl)) rfl
  · by_cases c1 : a2 < 1
    · exact pair_of (P := fun zs => zs k j = s k j) (show (D_X11_fill s a1 a2) = (0, s) from ((if_neg c0).trans ((if_pos c1).trans rfl))) rfl
    · by_cases c2 : a2 ≤ 40
      · by_cases c3 : (D_X8_isFilled s a1) = 0
        · exact pair_of (P := fun zs => zs k j = s k j) (show (D_X11_fill s a1 a2) = ((D_X8_addPiece s a1 0 a2 0 0).1, (D_X8_addPiece s a1 0 a2 0 0).2) from ((if_neg c0).trans ((if_neg c1).trans ((if_pos c2).trans ((if_pos c3).trans rfl))))) ((fw_X8_addPiece h15 h16 h17 h18 h19).trans rfl)
        · exact pair_of (P := fun zs => zs k j = s k j) (show (D_X11_fill s a1 a2) = (0, s) from ((if_neg c0).trans ((if_neg c1).trans ((if_pos c2).trans ((if_neg c3).trans rfl))))) rfl
      · exact pair_of (P := fun zs => zs k j = s k j) (show (D_X11_fill s a1 a2) = (0, s) from ((if_neg c0).trans ((if_neg c1).trans ((if_neg c2).trans rfl)))) rfl
-- LinkHarbour.addReference
noncomputable def D_X11_addReference (s : Sg) (a1 : Int32) (a2 : Int32) (a3 : Int32) (a4 : Int32) (a5 : Int32) : Int32 × Sg := (if a5 = 0 then ((D_X8_addPiece (D_X6_need s (D_X8_objectOf s a1) a3) a1 a2 a3 a4 a5).1, (D_X8_addPiece (D_X6_need s (D_X8_objectOf s a1) a3) a1 a2 a3 a4 a5).2) else ((D_X8_addPiece s a1 a2 a3 a4 a5).1, (D_X8_addPiece s a1 a2 a3 a4 a5).2))
theorem m_X11_addReference (hP : WOK b w H0) {s : Sg} {a1 : Int32} {a2 : Int32} {a3 : Int32} {a4 : Int32} {a5 : Int32} (hN : NN s) (za5 : bz a5 = true) : Rx sc g_X11_addReference 4 ((0, [(0, .ref b), (1, .int a1), (2, .int a2), (3, .int a3), (4, .int a4), (5, .int a5)], [])) (wd b w wl H0 s, kn) (some (.int (D_X11_addReference s a1 a2 a3 a4 a5).1)) (wd b w wl H0 (D_X11_addReference s a1 a2 a3 a4 a5).2, kn) := by
  show Rx sc g_X11_addReference 4 (0, [(0, .ref b), (1, .int a1), (2, .int a2), (3, .int a3), (4, .int a4), (5, .int a5)], []) (wd b w wl H0 s, kn) (some (.int (D_X11_addReference s a1 a2 a3 a4 a5).1)) (wd b w wl H0 (D_X11_addReference s a1 a2 a3 a4 a5).2, kn)
  refine rx_k 1 (2, [(0, .ref b), (1, .int a1), (2, .int a2), (3, .int a3), (4, .int a4), (5, .int a5)], [.int a5]) (fun _ _ => rfl) ?_
  by_cases c0 : a5 = 0
  · refine rx_ifF rfl (nf c0) rfl ?_
    refine rx_k 1 (6, [(0, .ref b), (1, .int a1), (2, .int a2), (3, .int a3), (4, .int a4), (5, .int a5)], [.ref b]) (fun _ _ => rfl) ?_
    refine rx_getf rfl rfl (wg_0 hP) rfl ?_
    refine rx_k 1 (10, [(0, .ref b), (1, .int a1), (2, .int a2), (3, .int a3), (4, .int a4), (5, .int a5)], [.ref b, .ref (b + 1)]) (fun _ _ => rfl) ?_
    refine rx_getf rfl rfl (wg_0 hP) rfl ?_
    refine rx_k 1 (14, [(0, .ref b), (1, .int a1), (2, .int a2), (3, .int a3), (4, .int a4), (5, .int a5)], [.int a1, .ref (b + 11), .ref (b + 1)]) (fun _ _ => rfl) ?_
    refine rx_inv rfl rfl (rc_X8_objectOf hP) rfl rfl rfl (q_recv (wg_11 hP)) rfl rfl ?_
    refine rx_k 1 (18, [(0, .ref b), (1, .int a1), (2, .int a2), (3, .int a3), (4, .int a4), (5, .int a5)], [.int a3, .int (D_X8_objectOf s a1), .ref (b + 1)]) (fun _ _ => rfl) ?_
    refine rx_inv rfl rfl (rc_X6_need hP hN) rfl rfl rfl (q_recv (wg_1 hP)) rfl rfl ?_
    refine rx_k 1 (22, [(0, .ref b), (1, .int a1), (2, .int a2), (3, .int a3), (4, .int a4), (5, .int a5)], [.ref b]) (fun _ _ => rfl) ?_
    refine rx_getf rfl rfl (wg_0 hP) rfl ?_
    refine rx_k 5 (32, [(0, .ref b), (1, .int a1), (2, .int a2), (3, .int a3), (4, .int a4), (5, .int a5)], [.int a5, .int a4, .int a3, .int a2, .int a1, .ref (b + 11)]) (fun _ _ => rfl) ?_
    refine rx_inv rfl rfl (rc_X8_addPiece hP (nn_X6_need hN) za5) rfl rfl rfl (q_recv (wg_11 hP)) rfl rfl ?_
    rw [(show (D_X11_addReference s a1 a2 a3 a4 a5) = ((D_X8_addPiece (D_X6_need s (D_X8_objectOf s a1) a3) a1 a2 a3 a4 a5).1, (D_X8_addPiece (D_X6_need s (D_X8_objectOf s a1) a3) a1 a2 a3 a4 a5).2) from ((if_pos c0).trans rfl))]
    exact rx_ri rfl
  · refine rx_ifT rfl (nt c0) ?_
    refine rx_k 1 (22, [(0, .ref b), (1, .int a1), (2, .int a2), (3, .int a3), (4, .int a4), (5, .int a5)], [.ref b]) (fun _ _ => rfl) ?_
    refine rx_getf rfl rfl (wg_0 hP) rfl ?_
    refine rx_k 5 (32, [(0, .ref b), (1, .int a1), (2, .int a2), (3, .int a3), (4, .int a4), (5, .int a5)], [.int a5, .int a4, .int a3, .int a2, .int a1, .ref (b + 11)]) (fun _ _ => rfl) ?_
    refine rx_inv rfl rfl (rc_X8_addPiece hP hN za5) rfl rfl rfl (q_recv (wg_11 hP)) rfl rfl ?_
    rw [(show (D_X11_addReference s a1 a2 a3 a4 a5) = ((D_X8_addPiece s a1 a2 a3 a4 a5).1, (D_X8_addPiece s a1 a2 a3 a4 a5).2) from ((if_neg c0).trans rfl))]
    exact rx_ri rfl
theorem rc_X11_addReference (hP : WOK b w H0) {s : Sg} {a1 : Int32} {a2 : Int32} {a3 : Int32} {a4 : Int32} {a5 : Int32} (hN : NN s) (za5 : bz a5 = true) : Rc sc 5 198 [.ref b, .int a1, .int a2, .int a3, .int a4, .int a5] (wd b w wl H0 s, kn) (some (.int (D_X11_addReference s a1 a2 a3 a4 a5).1)) (wd b w wl H0 (D_X11_addReference s a1 a2 a3 a4 a5).2, kn) := rx_mc (m_X11_addReference hP hN za5) rfl rfl (Nat.ble_eq_true_of_le (Nat.le_refl _)) (Nat.ble_eq_true_of_le (Nat.le_refl _))
theorem nn_X11_addReference {s : Sg} {a1 : Int32} {a2 : Int32} {a3 : Int32} {a4 : Int32} {a5 : Int32} (hN : NN s) : NN (D_X11_addReference s a1 a2 a3 a4 a5).2 := by
  by_cases c0 : a5 = 0
  · exact pair_of (P := fun zs => NN zs) (show (D_X11_addReference s a1 a2 a3 a4 a5) = ((D_X8_addPiece (D_X6_need s (D_X8_objectOf s a1) a3) a1 a2 a3 a4 a5).1, (D_X8_addPiece (D_X6_need s (D_X8_objectOf s a1) a3) a1 a2 a3 a4 a5).2) from ((if_pos c0).trans rfl)) (nn_X8_addPiece (nn_X6_need hN))
  · exact pair_of (P := fun zs => NN zs) (show (D_X11_addReference s a1 a2 a3 a4 a5) = ((D_X8_addPiece s a1 a2 a3 a4 a5).1, (D_X8_addPiece s a1 a2 a3 a4 a5).2) from ((if_neg c0).trans rfl)) (nn_X8_addPiece hN)
theorem fw_X11_addReference {s : Sg} {a1 : Int32} {a2 : Int32} {a3 : Int32} {a4 : Int32} {a5 : Int32} {k j : Nat} (h4 : k ≠ 4) (h15 : k ≠ 15) (h16 : k ≠ 16) (h17 : k ≠ 17) (h18 : k ≠ 18) (h19 : k ≠ 19) : (D_X11_addReference s a1 a2 a3 a4 a5).2 k j = s k j := by
  by_cases c0 : a5 = 0
  · exact pair_of (P := fun zs => zs k j = s k j) (show (D_X11_addReference s a1 a2 a3 a4 a5) = ((D_X8_addPiece (D_X6_need s (D_X8_objectOf s a1) a3) a1 a2 a3 a4 a5).1, (D_X8_addPiece (D_X6_need s (D_X8_objectOf s a1) a3) a1 a2 a3 a4 a5).2) from ((if_pos c0).trans rfl)) ((fw_X8_addPiece h15 h16 h17 h18 h19).trans ((fw_X6_need h4).trans rfl))
  · exact pair_of (P := fun zs => zs k j = s k j) (show (D_X11_addReference s a1 a2 a3 a4 a5) = ((D_X8_addPiece s a1 a2 a3 a4 a5).1, (D_X8_addPiece s a1 a2 a3 a4 a5).2) from ((if_neg c0).trans rfl)) ((fw_X8_addPiece h15 h16 h17 h18 h19).trans rfl)
-- LinkHarbour.word
noncomputable def D_X11_word (s : Sg) (a1 : Int32) (a2 : Int32) (a3 : Int32) (a4 : Int32) : Int32 × Sg := (if (D_X8_has s a1) = 0 then (0, s) else (if (D_X11_isName a2) = 0 then (0, s) else (if a3 < (-50) then (0, s) else (if a3 ≤ 50 then (if (D_X8_isFilled s a1) = 0 then ((D_X11_addReference s a1 1 a2 a3 a4).1, (D_X11_addReference s a1 1 a2 a3 a4).2) else (0, s)) else (0, s)))))
noncomputable def T_X11_word (s : Sg) (a1 : Int32) (a2 : Int32) (a3 : Int32) (a4 : Int32) : Bool := (if (D_X8_has s a1) = 0 then false else (if (D_X11_isName a2) = 0 then false else (if a3 < (-50) then false else (if a3 ≤ 50 then (if (D_X8_isFilled s a1) = 0 then true else false) else false))))
theorem m_X11_word (hP : WOK b w H0) {s : Sg} {a1 : Int32} {a2 : Int32} {a3 : Int32} {a4 : Int32} (hN : NN s) (za4 : bz a4 = true) (hT : T_X11_word s a1 a2 a3 a4 = true) : Rx sc g_X11_word 5 ((0, [(0, .ref b), (1, .int a1), (2, .int a2), (3, .int a3), (4, .int a4)], [])) (wd b w wl H0 s, kn) (some (.int (D_X11_word s a1 a2 a3 a4).1)) (wd b w wl H0 (D_X11_word s a1 a2 a3 a4).2, kn) := by
  show Rx sc g_X11_word 5 (0, [(0, .ref b), (1, .int a1), (2, .int a2), (3, .int a3), (4, .int a4)], []) (wd b w wl H0 s, kn) (some (.int (D_X11_word s a1 a2 a3 a4).1)) (wd b w wl H0 (D_X11_word s a1 a2 a3 a4).2, kn)
  refine rx_k 1 (1, [(0, .ref b), (1, .int a1), (2, .int a2), (3, .int a3), (4, .int a4)], [.ref b]) (fun _ _ => rfl) ?_
  refine rx_getf rfl rfl (wg_0 hP) rfl ?_
  refine rx_k 1 (5, [(0, .ref b), (1, .int a1), (2, .int a2), (3, .int a3), (4, .int a4)], [.int a1, .ref (b + 11)]) (fun _ _ => rfl) ?_
  refine rx_inv rfl rfl (rc_X8_has hP) rfl rfl rfl (q_recv (wg_11 hP)) rfl rfl ?_
  by_cases c0 : (D_X8_has s a1) = 0
  · refine rx_ifF rfl (nf c0) rfl ?_
    rw [(show T_X11_word s a1 a2 a3 a4 = false from ((if_pos c0).trans rfl))] at hT
    cases hT
  · refine rx_ifT rfl (nt c0) ?_
    refine rx_k 1 (22, [(0, .ref b), (1, .int a1), (2, .int a2), (3, .int a3), (4, .int a4)], [.int a2]) (fun _ _ => rfl) ?_
    refine rx_inv rfl rfl (rc_X11_isName) rfl rfl rfl rfl rfl rfl ?_
    by_cases c1 : (D_X11_isName a2) = 0
    · refine rx_ifT rfl (bt c1) ?_
      rw [(show T_X11_word s a1 a2 a3 a4 = false from ((if_neg c0).trans ((if_pos c1).trans rfl)))] at hT
      cases hT
    · refine rx_ifF rfl (bf c1) rfl ?_
      refine rx_k 2 (31, [(0, .ref b), (1, .int a1), (2, .int a2), (3, .int a3), (4, .int a4)], [.int (-50), .int a3]) (fun _ _ => rfl) ?_
      by_cases c2 : a3 < (-50)
      · refine rx_icT rfl (bt c2) ?_
        rw [(show T_X11_word s a1 a2 a3 a4 = false from ((if_neg c0).trans ((if_neg c1).trans ((if_pos c2).trans rfl))))] at hT
        cases hT
      · refine rx_icF rfl (bf c2) rfl ?_
        refine rx_k 2 (37, [(0, .ref b), (1, .int a1), (2, .int a2), (3, .int a3), (4, .int a4)], [.int 50, .int a3]) (fun _ _ => rfl) ?_
        by_cases c3 : a3 ≤ 50
        · refine rx_icT rfl (bt c3) ?_
          refine rx_k 1 (51, [(0, .ref b), (1, .int a1), (2, .int a2), (3, .int a3), (4, .int a4)], [.ref b]) (fun _ _ => rfl) ?_
          refine rx_getf rfl rfl (wg_0 hP) rfl ?_
          refine rx_k 1 (55, [(0, .ref b), (1, .int a1), (2, .int a2), (3, .int a3), (4, .int a4)], [.int a1, .ref (b + 11)]) (fun _ _ => rfl) ?_
          refine rx_inv rfl rfl (rc_X8_isFilled hP) rfl rfl rfl (q_recv (wg_11 hP)) rfl rfl ?_
          by_cases c4 : (D_X8_isFilled s a1) = 0
          · refine rx_ifT rfl (bt c4) ?_
            refine rx_k 6 (78, [(0, .ref b), (1, .int a1), (2, .int a2), (3, .int a3), (4, .int a4)], [.int a4, .int a3, .int a2, .int 1, .int a1, .ref b]) (fun _ _ => rfl) ?_
            refine rx_inv rfl rfl (rc_X11_addReference hP hN za4) rfl rfl rfl (q_recv (wg_0 hP)) rfl rfl ?_
            rw [(show (D_X11_word s a1 a2 a3 a4) = ((D_X11_addReference s a1 1 a2 a3 a4).1, (D_X11_addReference s a1 1 a2 a3 a4).2) from ((if_neg c0).trans ((if_neg c1).trans ((if_neg c2).trans ((if_pos c3).trans ((if_pos c4).trans rfl))))))]
            exact rx_ri rfl
          · refine rx_ifF rfl (bf c4) rfl ?_
            rw [(show T_X11_word s a1 a2 a3 a4 = false from ((if_neg c0).trans ((if_neg c1).trans ((if_neg c2).trans ((if_pos c3).trans ((if_neg c4).trans rfl))))))] at hT
            cases hT
        · refine rx_icF rfl (bf c3) rfl ?_
          rw [(show T_X11_word s a1 a2 a3 a4 = false from ((if_neg c0).trans ((if_neg c1).trans ((if_neg c2).trans ((if_neg c3).trans rfl)))))] at hT
          cases hT
theorem rc_X11_word (hP : WOK b w H0) {s : Sg} {a1 : Int32} {a2 : Int32} {a3 : Int32} {a4 : Int32} (hN : NN s) (za4 : bz a4 = true) (hT : T_X11_word s a1 a2 a3 a4 = true) : Rc sc 6 162 [.ref b, .int a1, .int a2, .int a3, .int a4] (wd b w wl H0 s, kn) (some (.int (D_X11_word s a1 a2 a3 a4).1)) (wd b w wl H0 (D_X11_word s a1 a2 a3 a4).2, kn) := rx_mc (m_X11_word hP hN za4 hT) rfl rfl (Nat.ble_eq_true_of_le (Nat.le_refl _)) (Nat.ble_eq_true_of_le (Nat.le_refl _))
theorem nn_X11_word {s : Sg} {a1 : Int32} {a2 : Int32} {a3 : Int32} {a4 : Int32} (hN : NN s) : NN (D_X11_word s a1 a2 a3 a4).2 := by
  by_cases c0 : (D_X8_has s a1) = 0
  · exact pair_of (P := fun zs => NN zs) (show (D_X11_word s a1 a2 a3 a4) = (0, s) from ((if_pos c0).trans rfl)) hN
  · by_cases c1 : (D_X11_isName a2) = 0
    · exact pair_of (P := fun zs => NN zs) (show (D_X11_word s a1 a2 a3 a4) = (0, s) from ((if_neg c0).trans ((if_pos c1).trans rfl))) hN
    · by_cases c2 : a3 < (-50)
      · exact pair_of (P := fun zs => NN zs) (show (D_X11_word s a1 a2 a3 a4) = (0, s) from ((if_neg c0).trans ((if_neg c1).trans ((if_pos c2).trans rfl)))) hN
      · by_cases c3 : a3 ≤ 50
        · by_cases c4 : (D_X8_isFilled s a1) = 0
          · exact pair_of (P := fun zs => NN zs) (show (D_X11_word s a1 a2 a3 a4) = ((D_X11_addReference s a1 1 a2 a3 a4).1, (D_X11_addReference s a1 1 a2 a3 a4).2) from ((if_neg c0).trans ((if_neg c1).trans ((if_neg c2).trans ((if_pos c3).trans ((if_pos c4).trans rfl)))))) (nn_X11_addReference hN)
          · exact pair_of (P := fun zs => NN zs) (show (D_X11_word s a1 a2 a3 a4) = (0, s) from ((if_neg c0).trans ((if_neg c1).trans ((if_neg c2).trans ((if_pos c3).trans ((if_neg c4).trans rfl)))))) hN
        · exact pair_of (P := fun zs => NN zs) (show (D_X11_word s a1 a2 a3 a4) = (0, s) from ((if_neg c0).trans ((if_neg c1).trans ((if_neg c2).trans ((if_neg c3).trans rfl))))) hN
theorem fw_X11_word {s : Sg} {a1 : Int32} {a2 : Int32} {a3 : Int32} {a4 : Int32} {k j : Nat} (h4 : k ≠ 4) (h15 : k ≠ 15) (h16 : k ≠ 16) (h17 : k ≠ 17) (h18 : k ≠ 18) (h19 : k ≠ 19) : (D_X11_word s a1 a2 a3 a4).2 k j = s k j := by
  by_cases c0 : (D_X8_has s a1) = 0
  · exact pair_of (P := fun zs => zs k j = s k j) (show (D_X11_word s a1 a2 a3 a4) = (0, s) from ((if_pos c0).trans rfl)) rfl
  · by_cases c1 : (D_X11_isName a2) = 0
    · exact pair_of (P := fun zs => zs k j = s k j) (show (D_X11_word s a1 a2 a3 a4) = (0, s) from ((if_neg c0).trans ((if_pos c1).trans rfl))) rfl
    · by_cases c2 : a3 < (-50)
      · exact pair_of (P := fun zs => zs k j = s k j) (show (D_X11_word s a1 a2 a3 a4) = (0, s) from ((if_neg c0).trans ((if_neg c1).trans ((if_pos c2).trans rfl)))) rfl
      · by_cases c3 : a3 ≤ 50
        · by_cases c4 : (D_X8_isFilled s a1) = 0
          · exact pair_of (P := fun zs => zs k j = s k j) (show (D_X11_word s a1 a2 a3 a4) = ((D_X11_addReference s a1 1 a2 a3 a4).1, (D_X11_addReference s a1 1 a2 a3 a4).2) from ((if_neg c0).trans ((if_neg c1).trans ((if_neg c2).trans ((if_pos c3).trans ((if_pos c4).trans rfl)))))) ((fw_X11_addReference h4 h15 h16 h17 h18 h19).trans rfl)
          · exact pair_of (P := fun zs => zs k j = s k j) (show (D_X11_word s a1 a2 a3 a4) = (0, s) from ((if_neg c0).trans ((if_neg c1).trans ((if_neg c2).trans ((if_pos c3).trans ((if_neg c4).trans rfl)))))) rfl
        · exact pair_of (P := fun zs => zs k j = s k j) (show (D_X11_word s a1 a2 a3 a4) = (0, s) from ((if_neg c0).trans ((if_neg c1).trans ((if_neg c2).trans ((if_neg c3).trans rfl))))) rfl
-- LinkHarbour.jump
noncomputable def D_X11_jump (s : Sg) (a1 : Int32) (a2 : Int32) (a3 : Int32) : Int32 × Sg := (if (D_X8_has s a1) = 0 then (0, s) else (if (D_X11_isName a2) = 0 then (0, s) else (if (D_X8_isFilled s a1) = 0 then ((D_X11_addReference s a1 2 a2 0 a3).1, (D_X11_addReference s a1 2 a2 0 a3).2) else (0, s))))
noncomputable def T_X11_jump (s : Sg) (a1 : Int32) (a2 : Int32) (a3 : Int32) : Bool := (if (D_X8_has s a1) = 0 then false else (if (D_X11_isName a2) = 0 then false else (if (D_X8_isFilled s a1) = 0 then true else false)))
theorem m_X11_jump (hP : WOK b w H0) {s : Sg} {a1 : Int32} {a2 : Int32} {a3 : Int32} (hN : NN s) (za3 : bz a3 = true) (hT : T_X11_jump s a1 a2 a3 = true) : Rx sc g_X11_jump 5 ((0, [(0, .ref b), (1, .int a1), (2, .int a2), (3, .int a3)], [])) (wd b w wl H0 s, kn) (some (.int (D_X11_jump s a1 a2 a3).1)) (wd b w wl H0 (D_X11_jump s a1 a2 a3).2, kn) := by
  show Rx sc g_X11_jump 5 (0, [(0, .ref b), (1, .int a1), (2, .int a2), (3, .int a3)], []) (wd b w wl H0 s, kn) (some (.int (D_X11_jump s a1 a2 a3).1)) (wd b w wl H0 (D_X11_jump s a1 a2 a3).2, kn)
  refine rx_k 1 (1, [(0, .ref b), (1, .int a1), (2, .int a2), (3, .int a3)], [.ref b]) (fun _ _ => rfl) ?_
  refine rx_getf rfl rfl (wg_0 hP) rfl ?_
  refine rx_k 1 (5, [(0, .ref b), (1, .int a1), (2, .int a2), (3, .int a3)], [.int a1, .ref (b + 11)]) (fun _ _ => rfl) ?_
  refine rx_inv rfl rfl (rc_X8_has hP) rfl rfl rfl (q_recv (wg_11 hP)) rfl rfl ?_
  by_cases c0 : (D_X8_has s a1) = 0
  · refine rx_ifF rfl (nf c0) rfl ?_
    rw [(show T_X11_jump s a1 a2 a3 = false from ((if_pos c0).trans rfl))] at hT
    cases hT
  · refine rx_ifT rfl (nt c0) ?_
    refine rx_k 1 (22, [(0, .ref b), (1, .int a1), (2, .int a2), (3, .int a3)], [.int a2]) (fun _ _ => rfl) ?_
    refine rx_inv rfl rfl (rc_X11_isName) rfl rfl rfl rfl rfl rfl ?_
    by_cases c1 : (D_X11_isName a2) = 0
    · refine rx_ifF rfl (nf c1) rfl ?_
      rw [(show T_X11_jump s a1 a2 a3 = false from ((if_neg c0).trans ((if_pos c1).trans rfl)))] at hT
      cases hT
    · refine rx_ifT rfl (nt c1) ?_
      refine rx_k 1 (39, [(0, .ref b), (1, .int a1), (2, .int a2), (3, .int a3)], [.ref b]) (fun _ _ => rfl) ?_
      refine rx_getf rfl rfl (wg_0 hP) rfl ?_
      refine rx_k 1 (43, [(0, .ref b), (1, .int a1), (2, .int a2), (3, .int a3)], [.int a1, .ref (b + 11)]) (fun _ _ => rfl) ?_
      refine rx_inv rfl rfl (rc_X8_isFilled hP) rfl rfl rfl (q_recv (wg_11 hP)) rfl rfl ?_
      by_cases c2 : (D_X8_isFilled s a1) = 0
      · refine rx_ifT rfl (bt c2) ?_
        refine rx_k 6 (65, [(0, .ref b), (1, .int a1), (2, .int a2), (3, .int a3)], [.int a3, .int 0, .int a2, .int 2, .int a1, .ref b]) (fun _ _ => rfl) ?_
        refine rx_inv rfl rfl (rc_X11_addReference hP hN za3) rfl rfl rfl (q_recv (wg_0 hP)) rfl rfl ?_
        rw [(show (D_X11_jump s a1 a2 a3) = ((D_X11_addReference s a1 2 a2 0 a3).1, (D_X11_addReference s a1 2 a2 0 a3).2) from ((if_neg c0).trans ((if_neg c1).trans ((if_pos c2).trans rfl))))]
        exact rx_ri rfl
      · refine rx_ifF rfl (bf c2) rfl ?_
        rw [(show T_X11_jump s a1 a2 a3 = false from ((if_neg c0).trans ((if_neg c1).trans ((if_neg c2).trans rfl))))] at hT
        cases hT
theorem rc_X11_jump (hP : WOK b w H0) {s : Sg} {a1 : Int32} {a2 : Int32} {a3 : Int32} (hN : NN s) (za3 : bz a3 = true) (hT : T_X11_jump s a1 a2 a3 = true) : Rc sc 6 163 [.ref b, .int a1, .int a2, .int a3] (wd b w wl H0 s, kn) (some (.int (D_X11_jump s a1 a2 a3).1)) (wd b w wl H0 (D_X11_jump s a1 a2 a3).2, kn) := rx_mc (m_X11_jump hP hN za3 hT) rfl rfl (Nat.ble_eq_true_of_le (Nat.le_refl _)) (Nat.ble_eq_true_of_le (Nat.le_refl _))
theorem nn_X11_jump {s : Sg} {a1 : Int32} {a2 : Int32} {a3 : Int32} (hN : NN s) : NN (D_X11_jump s a1 a2 a3).2 := by
  by_cases c0 : (D_X8_has s a1) = 0
  · exact pair_of (P := fun zs => NN zs) (show (D_X11_jump s a1 a2 a3) = (0, s) from ((if_pos c0).trans rfl)) hN
  · by_cases c1 : (D_X11_isName a2) = 0
    · exact pair_of (P := fun zs => NN zs) (show (D_X11_jump s a1 a2 a3) = (0, s) from ((if_neg c0).trans ((if_pos c1).trans rfl))) hN
    · by_cases c2 : (D_X8_isFilled s a1) = 0
      · exact pair_of (P := fun zs => NN zs) (show (D_X11_jump s a1 a2 a3) = ((D_X11_addReference s a1 2 a2 0 a3).1, (D_X11_addReference s a1 2 a2 0 a3).2) from ((if_neg c0).trans ((if_neg c1).trans ((if_pos c2).trans rfl)))) (nn_X11_addReference hN)
      · exact pair_of (P := fun zs => NN zs) (show (D_X11_jump s a1 a2 a3) = (0, s) from ((if_neg c0).trans ((if_neg c1).trans ((if_neg c2).trans rfl)))) hN
theorem fw_X11_jump {s : Sg} {a1 : Int32} {a2 : Int32} {a3 : Int32} {k j : Nat} (h4 : k ≠ 4) (h15 : k ≠ 15) (h16 : k ≠ 16) (h17 : k ≠ 17) (h18 : k ≠ 18) (h19 : k ≠ 19) : (D_X11_jump s a1 a2 a3).2 k j = s k j := by
  by_cases c0 : (D_X8_has s a1) = 0
  · exact pair_of (P := fun zs => zs k j = s k j) (show (D_X11_jump s a1 a2 a3) = (0, s) from ((if_pos c0).trans rfl)) rfl
  · by_cases c1 : (D_X11_isName a2) = 0
    · exact pair_of (P := fun zs => zs k j = s k j) (show (D_X11_jump s a1 a2 a3) = (0, s) from ((if_neg c0).trans ((if_pos c1).trans rfl))) rfl
    · by_cases c2 : (D_X8_isFilled s a1) = 0
      · exact pair_of (P := fun zs => zs k j = s k j) (show (D_X11_jump s a1 a2 a3) = ((D_X11_addReference s a1 2 a2 0 a3).1, (D_X11_addReference s a1 2 a2 0 a3).2) from ((if_neg c0).trans ((if_neg c1).trans ((if_pos c2).trans rfl)))) ((fw_X11_addReference h4 h15 h16 h17 h18 h19).trans rfl)
      · exact pair_of (P := fun zs => zs k j = s k j) (show (D_X11_jump s a1 a2 a3) = (0, s) from ((if_neg c0).trans ((if_neg c1).trans ((if_neg c2).trans rfl)))) rfl
-- LinkHarbour.define
noncomputable def D_X11_define (s : Sg) (a1 : Int32) (a2 : Int32) (a3 : Int32) (a4 : Int32) : Int32 × Sg := (if (D_X8_has s a1) = 0 then (0, s) else (if (D_X11_isName a2) = 0 then (0, s) else (if (D_X6_kind s (D_X8_objectOf s a1) a2) = (-1) then (if a3 = 0 then (if a4 = 0 then ((D_X8_pieces s a1), (D_X6_addDefinition s (D_X8_objectOf s a1) a2 0 a1 (D_X8_pieces s a1))) else ((D_X8_pieces s a1), (D_X6_hide (D_X6_addDefinition s (D_X8_objectOf s a1) a2 0 a1 (D_X8_pieces s a1)) (D_X8_objectOf s a1) a2))) else (if a4 = 0 then ((D_X8_pieces s a1), (D_X6_addDefinition s (D_X8_objectOf s a1) a2 2 a1 (D_X8_pieces s a1))) else ((D_X8_pieces s a1), (D_X6_hide (D_X6_addDefinition s (D_X8_objectOf s a1) a2 2 a1 (D_X8_pieces s a1)) (D_X8_objectOf s a1) a2)))) else (0, s))))
noncomputable def T_X11_define (s : Sg) (a1 : Int32) (a2 : Int32) (a3 : Int32) (a4 : Int32) : Bool := (if (D_X8_has s a1) = 0 then false else (if (D_X11_isName a2) = 0 then false else (if (D_X6_kind s (D_X8_objectOf s a1) a2) = (-1) then (if a3 = 0 then (if a4 = 0 then true else true) else (if a4 = 0 then true else true)) else false)))
theorem m_X11_define (hP : WOK b w H0) {s : Sg} {a1 : Int32} {a2 : Int32} {a3 : Int32} {a4 : Int32} (hN : NN s) (za3 : bz a3 = true) (za4 : bz a4 = true) (hT : T_X11_define s a1 a2 a3 a4 = true) : Rx sc g_X11_define 2 ((0, [(0, .ref b), (1, .int a1), (2, .int a2), (3, .int a3), (4, .int a4)], [])) (wd b w wl H0 s, kn) (some (.int (D_X11_define s a1 a2 a3 a4).1)) (wd b w wl H0 (D_X11_define s a1 a2 a3 a4).2, kn) := by
  show Rx sc g_X11_define 2 (0, [(0, .ref b), (1, .int a1), (2, .int a2), (3, .int a3), (4, .int a4)], []) (wd b w wl H0 s, kn) (some (.int (D_X11_define s a1 a2 a3 a4).1)) (wd b w wl H0 (D_X11_define s a1 a2 a3 a4).2, kn)
  refine rx_k 1 (1, [(0, .ref b), (1, .int a1), (2, .int a2), (3, .int a3), (4, .int a4)], [.ref b]) (fun _ _ => rfl) ?_
  refine rx_getf rfl rfl (wg_0 hP) rfl ?_
  refine rx_k 1 (5, [(0, .ref b), (1, .int a1), (2, .int a2), (3, .int a3), (4, .int a4)], [.int a1, .ref (b + 11)]) (fun _ _ => rfl) ?_
  refine rx_inv rfl rfl (rc_X8_has hP) rfl rfl rfl (q_recv (wg_11 hP)) rfl rfl ?_
  by_cases c0 : (D_X8_has s a1) = 0
  · refine rx_ifF rfl (nf c0) rfl ?_
    rw [(show T_X11_define s a1 a2 a3 a4 = false from ((if_pos c0).trans rfl))] at hT
    cases hT
  · refine rx_ifT rfl (nt c0) ?_
    refine rx_k 1 (22, [(0, .ref b), (1, .int a1), (2, .int a2), (3, .int a3), (4, .int a4)], [.int a2]) (fun _ _ => rfl) ?_
    refine rx_inv rfl rfl (rc_X11_isName) rfl rfl rfl rfl rfl rfl ?_
    by_cases c1 : (D_X11_isName a2) = 0
    · refine rx_ifF rfl (nf c1) rfl ?_
      rw [(show T_X11_define s a1 a2 a3 a4 = false from ((if_neg c0).trans ((if_pos c1).trans rfl)))] at hT
      cases hT
    · refine rx_ifT rfl (nt c1) ?_
      refine rx_k 1 (39, [(0, .ref b), (1, .int a1), (2, .int a2), (3, .int a3), (4, .int a4)], [.ref b]) (fun _ _ => rfl) ?_
      refine rx_getf rfl rfl (wg_0 hP) rfl ?_
      refine rx_k 1 (43, [(0, .ref b), (1, .int a1), (2, .int a2), (3, .int a3), (4, .int a4)], [.int a1, .ref (b + 11)]) (fun _ _ => rfl) ?_
      refine rx_inv rfl rfl (rc_X8_objectOf hP) rfl rfl rfl (q_recv (wg_11 hP)) rfl rfl ?_
      refine rx_k 2 (49, [(5, .int (D_X8_objectOf s a1)), (0, .ref b), (1, .int a1), (2, .int a2), (3, .int a3), (4, .int a4)], [.ref b]) (fun _ _ => rfl) ?_
      refine rx_getf rfl rfl (wg_0 hP) rfl ?_
      refine rx_k 2 (55, [(5, .int (D_X8_objectOf s a1)), (0, .ref b), (1, .int a1), (2, .int a2), (3, .int a3), (4, .int a4)], [.int a2, .int (D_X8_objectOf s a1), .ref (b + 1)]) (fun _ _ => rfl) ?_
      refine rx_inv rfl rfl (rc_X6_kind hP) rfl rfl rfl (q_recv (wg_1 hP)) rfl rfl ?_
      refine rx_k 1 (59, [(5, .int (D_X8_objectOf s a1)), (0, .ref b), (1, .int a1), (2, .int a2), (3, .int a3), (4, .int a4)], [.int (-1), .int (D_X6_kind s (D_X8_objectOf s a1) a2)]) (fun _ _ => rfl) ?_
      by_cases c2 : (D_X6_kind s (D_X8_objectOf s a1) a2) = (-1)
      · refine rx_icT rfl (bt c2) ?_
        refine rx_k 1 (73, [(5, .int (D_X8_objectOf s a1)), (0, .ref b), (1, .int a1), (2, .int a2), (3, .int a3), (4, .int a4)], [.ref b]) (fun _ _ => rfl) ?_
        refine rx_getf rfl rfl (wg_0 hP) rfl ?_
        refine rx_k 1 (77, [(5, .int (D_X8_objectOf s a1)), (0, .ref b), (1, .int a1), (2, .int a2), (3, .int a3), (4, .int a4)], [.int a1, .ref (b + 11)]) (fun _ _ => rfl) ?_
        refine rx_inv rfl rfl (rc_X8_pieces hP) rfl rfl rfl (q_recv (wg_11 hP)) rfl rfl ?_
        refine rx_k 2 (83, [(6, .int (D_X8_pieces s a1)), (5, .int (D_X8_objectOf s a1)), (0, .ref b), (1, .int a1), (2, .int a2), (3, .int a3), (4, .int a4)], [.ref b]) (fun _ _ => rfl) ?_
        refine rx_getf rfl rfl (wg_0 hP) rfl ?_
        refine rx_k 3 (90, [(6, .int (D_X8_pieces s a1)), (5, .int (D_X8_objectOf s a1)), (0, .ref b), (1, .int a1), (2, .int a2), (3, .int a3), (4, .int a4)], [.int a3, .int a2, .int (D_X8_objectOf s a1), .ref (b + 1)]) (fun _ _ => rfl) ?_
        by_cases c3 : a3 = 0
        · refine rx_ifT rfl (bt c3) ?_
          refine rx_k 3 (101, [(6, .int (D_X8_pieces s a1)), (5, .int (D_X8_objectOf s a1)), (0, .ref b), (1, .int a1), (2, .int a2), (3, .int a3), (4, .int a4)], [.int (D_X8_pieces s a1), .int a1, .int 0, .int a2, .int (D_X8_objectOf s a1), .ref (b + 1)]) (fun _ _ => rfl) ?_
          refine rx_inv rfl rfl (rc_X6_addDefinition hP hN) rfl rfl rfl (q_recv (wg_1 hP)) rfl rfl ?_
          refine rx_k 1 (106, [(6, .int (D_X8_pieces s a1)), (5, .int (D_X8_objectOf s a1)), (0, .ref b), (1, .int a1), (2, .int a2), (3, .int a3), (4, .int a4)], [.int a4]) (fun _ _ => rfl) ?_
          by_cases c4 : a4 = 0
          · refine rx_ifT rfl (bt c4) ?_
            refine rx_k 1 (121, [(6, .int (D_X8_pieces s a1)), (5, .int (D_X8_objectOf s a1)), (0, .ref b), (1, .int a1), (2, .int a2), (3, .int a3), (4, .int a4)], [.int (D_X8_pieces s a1)]) (fun _ _ => rfl) ?_
            rw [(show (D_X11_define s a1 a2 a3 a4) = ((D_X8_pieces s a1), (D_X6_addDefinition s (D_X8_objectOf s a1) a2 0 a1 (D_X8_pieces s a1))) from ((if_neg c0).trans ((if_neg c1).trans ((if_pos c2).trans ((if_pos c3).trans ((if_pos c4).trans rfl))))))]
            exact rx_ri rfl
          · refine rx_ifF rfl (bf c4) rfl ?_
            refine rx_k 1 (110, [(6, .int (D_X8_pieces s a1)), (5, .int (D_X8_objectOf s a1)), (0, .ref b), (1, .int a1), (2, .int a2), (3, .int a3), (4, .int a4)], [.ref b]) (fun _ _ => rfl) ?_
            refine rx_getf rfl rfl (wg_0 hP) rfl ?_
            refine rx_k 2 (116, [(6, .int (D_X8_pieces s a1)), (5, .int (D_X8_objectOf s a1)), (0, .ref b), (1, .int a1), (2, .int a2), (3, .int a3), (4, .int a4)], [.int a2, .int (D_X8_objectOf s a1), .ref (b + 1)]) (fun _ _ => rfl) ?_
            refine rx_inv rfl rfl (rc_X6_hide hP (nn_X6_addDefinition hN)) rfl rfl rfl (q_recv (wg_1 hP)) rfl rfl ?_
            refine rx_k 1 (121, [(6, .int (D_X8_pieces s a1)), (5, .int (D_X8_objectOf s a1)), (0, .ref b), (1, .int a1), (2, .int a2), (3, .int a3), (4, .int a4)], [.int (D_X8_pieces s a1)]) (fun _ _ => rfl) ?_
            rw [(show (D_X11_define s a1 a2 a3 a4) = ((D_X8_pieces s a1), (D_X6_hide (D_X6_addDefinition s (D_X8_objectOf s a1) a2 0 a1 (D_X8_pieces s a1)) (D_X8_objectOf s a1) a2)) from ((if_neg c0).trans ((if_neg c1).trans ((if_pos c2).trans ((if_pos c3).trans ((if_neg c4).trans rfl))))))]
            exact rx_ri rfl
        · refine rx_ifF rfl (bf c3) rfl ?_
          refine rx_k 4 (101, [(6, .int (D_X8_pieces s a1)), (5, .int (D_X8_objectOf s a1)), (0, .ref b), (1, .int a1), (2, .int a2), (3, .int a3), (4, .int a4)], [.int (D_X8_pieces s a1), .int a1, .int 2, .int a2, .int (D_X8_objectOf s a1), .ref (b + 1)]) (fun _ _ => rfl) ?_
          refine rx_inv rfl rfl (rc_X6_addDefinition hP hN) rfl rfl rfl (q_recv (wg_1 hP)) rfl rfl ?_
          refine rx_k 1 (106, [(6, .int (D_X8_pieces s a1)), (5, .int (D_X8_objectOf s a1)), (0, .ref b), (1, .int a1), (2, .int a2), (3, .int a3), (4, .int a4)], [.int a4]) (fun _ _ => rfl) ?_
          by_cases c5 : a4 = 0
          · refine rx_ifT rfl (bt c5) ?_
            refine rx_k 1 (121, [(6, .int (D_X8_pieces s a1)), (5, .int (D_X8_objectOf s a1)), (0, .ref b), (1, .int a1), (2, .int a2), (3, .int a3), (4, .int a4)], [.int (D_X8_pieces s a1)]) (fun _ _ => rfl) ?_
            rw [(show (D_X11_define s a1 a2 a3 a4) = ((D_X8_pieces s a1), (D_X6_addDefinition s (D_X8_objectOf s a1) a2 2 a1 (D_X8_pieces s a1))) from ((if_neg c0).trans ((if_neg c1).trans ((if_pos c2).trans ((if_neg c3).trans ((if_pos c5).trans rfl))))))]
            exact rx_ri rfl
          · refine rx_ifF rfl (bf c5) rfl ?_
            refine rx_k 1 (110, [(6, .int (D_X8_pieces s a1)), (5, .int (D_X8_objectOf s a1)), (0, .ref b), (1, .int a1), (2, .int a2), (3, .int a3), (4, .int a4)], [.ref b]) (fun _ _ => rfl) ?_
            refine rx_getf rfl rfl (wg_0 hP) rfl ?_
            refine rx_k 2 (116, [(6, .int (D_X8_pieces s a1)), (5, .int (D_X8_objectOf s a1)), (0, .ref b), (1, .int a1), (2, .int a2), (3, .int a3), (4, .int a4)], [.int a2, .int (D_X8_objectOf s a1), .ref (b + 1)]) (fun _ _ => rfl) ?_
            refine rx_inv rfl rfl (rc_X6_hide hP (nn_X6_addDefinition hN)) rfl rfl rfl (q_recv (wg_1 hP)) rfl rfl ?_
            refine rx_k 1 (121, [(6, .int (D_X8_pieces s a1)), (5, .int (D_X8_objectOf s a1)), (0, .ref b), (1, .int a1), (2, .int a2), (3, .int a3), (4, .int a4)], [.int (D_X8_pieces s a1)]) (fun _ _ => rfl) ?_
            rw [(show (D_X11_define s a1 a2 a3 a4) = ((D_X8_pieces s a1), (D_X6_hide (D_X6_addDefinition s (D_X8_objectOf s a1) a2 2 a1 (D_X8_pieces s a1)) (D_X8_objectOf s a1) a2)) from ((if_neg c0).trans ((if_neg c1).trans ((if_pos c2).trans ((if_neg c3).trans ((if_neg c5).trans rfl))))))]
            exact rx_ri rfl
      · refine rx_icF rfl (bf c2) rfl ?_
        rw [(show T_X11_define s a1 a2 a3 a4 = false from ((if_neg c0).trans ((if_neg c1).trans ((if_neg c2).trans rfl))))] at hT
        cases hT
theorem rc_X11_define (hP : WOK b w H0) {s : Sg} {a1 : Int32} {a2 : Int32} {a3 : Int32} {a4 : Int32} (hN : NN s) (za3 : bz a3 = true) (za4 : bz a4 = true) (hT : T_X11_define s a1 a2 a3 a4 = true) : Rc sc 3 164 [.ref b, .int a1, .int a2, .int a3, .int a4] (wd b w wl H0 s, kn) (some (.int (D_X11_define s a1 a2 a3 a4).1)) (wd b w wl H0 (D_X11_define s a1 a2 a3 a4).2, kn) := rx_mc (m_X11_define hP hN za3 za4 hT) rfl rfl (Nat.ble_eq_true_of_le (Nat.le_refl _)) (Nat.ble_eq_true_of_le (Nat.le_refl _))
theorem nn_X11_define {s : Sg} {a1 : Int32} {a2 : Int32} {a3 : Int32} {a4 : Int32} (hN : NN s) : NN (D_X11_define s a1 a2 a3 a4).2 := by
  by_cases c0 : (D_X8_has s a1) = 0
  · exact pair_of (P := fun zs => NN zs) (show (D_X11_define s a1 a2 a3 a4) = (0, s) from ((if_pos c0).trans rfl)) hN
  · by_cases c1 : (D_X11_isName a2) = 0
    · exact pair_of (P := fun zs => NN zs) (show (D_X11_define s a1 a2 a3 a4) = (0, s) from ((if_neg c0).trans ((if_pos c1).trans rfl))) hN
    · by_cases c2 : (D_X6_kind s (D_X8_objectOf s a1) a2) = (-1)
      · by_cases c3 : a3 = 0
        · by_cases c4 : a4 = 0
          · exact pair_of (P := fun zs => NN zs) (show (D_X11_define s a1 a2 a3 a4) = ((D_X8_pieces s a1), (D_X6_addDefinition s (D_X8_objectOf s a1) a2 0 a1 (D_X8_pieces s a1))) from ((if_neg c0).trans ((if_neg c1).trans ((if_pos c2).trans ((if_pos c3).trans ((if_pos c4).trans rfl)))))) (nn_X6_addDefinition hN)
          · exact pair_of (P := fun zs => NN zs) (show (D_X11_define s a1 a2 a3 a4) = ((D_X8_pieces s a1), (D_X6_hide (D_X6_addDefinition s (D_X8_objectOf s a1) a2 0 a1 (D_X8_pieces s a1)) (D_X8_objectOf s a1) a2)) from ((if_neg c0).trans ((if_neg c1).trans ((if_pos c2).trans ((if_pos c3).trans ((if_neg c4).trans rfl)))))) (nn_X6_hide (nn_X6_addDefinition hN))
        · by_cases c5 : a4 = 0
          · exact pair_of (P := fun zs => NN zs) (show (D_X11_define s a1 a2 a3 a4) = ((D_X8_pieces s a1), (D_X6_addDefinition s (D_X8_objectOf s a1) a2 2 a1 (D_X8_pieces s a1))) from ((if_neg c0).trans ((if_neg c1).trans ((if_pos c2).trans ((if_neg c3).trans ((if_pos c5).trans rfl)))))) (nn_X6_addDefinition hN)
          · exact pair_of (P := fun zs => NN zs) (show (D_X11_define s a1 a2 a3 a4) = ((D_X8_pieces s a1), (D_X6_hide (D_X6_addDefinition s (D_X8_objectOf s a1) a2 2 a1 (D_X8_pieces s a1)) (D_X8_objectOf s a1) a2)) from ((if_neg c0).trans ((if_neg c1).trans ((if_pos c2).trans ((if_neg c3).trans ((if_neg c5).trans rfl)))))) (nn_X6_hide (nn_X6_addDefinition hN))
      · exact pair_of (P := fun zs => NN zs) (show (D_X11_define s a1 a2 a3 a4) = (0, s) from ((if_neg c0).trans ((if_neg c1).trans ((if_neg c2).trans rfl)))) hN
theorem fw_X11_define {s : Sg} {a1 : Int32} {a2 : Int32} {a3 : Int32} {a4 : Int32} {k j : Nat} (h2 : k ≠ 2) (h3 : k ≠ 3) (h5 : k ≠ 5) (h6 : k ≠ 6) (h7 : k ≠ 7) (h10 : k ≠ 10) : (D_X11_define s a1 a2 a3 a4).2 k j = s k j := by
  by_cases c0 : (D_X8_has s a1) = 0
  · exact pair_of (P := fun zs => zs k j = s k j) (show (D_X11_define s a1 a2 a3 a4) = (0, s) from ((if_pos c0).trans rfl)) rfl
  · by_cases c1 : (D_X11_isName a2) = 0
    · exact pair_of (P := fun zs => zs k j = s k j) (show (D_X11_define s a1 a2 a3 a4) = (0, s) from ((if_neg c0).trans ((if_pos c1).trans rfl))) rfl
    · by_cases c2 : (D_X6_kind s (D_X8_objectOf s a1) a2) = (-1)
      · by_cases c3 : a3 = 0
        · by_cases c4 : a4 = 0
          · exact pair_of (P := fun zs => zs k j = s k j) (show (D_X11_define s a1 a2 a3 a4) = ((D_X8_pieces s a1), (D_X6_addDefinition s (D_X8_objectOf s a1) a2 0 a1 (D_X8_pieces s a1))) from ((if_neg c0).trans ((if_neg c1).trans ((if_pos c2).trans ((if_pos c3).trans ((if_pos c4).trans rfl)))))) ((fw_X6_addDefinition h2 h3 h5 h6 h7).trans rfl)
          · exact pair_of (P := fun zs => zs k j = s k j) (show (D_X11_define s a1 a2 a3 a4) = ((D_X8_pieces s a1), (D_X6_hide (D_X6_addDefinition s (D_X8_objectOf s a1) a2 0 a1 (D_X8_pieces s a1)) (D_X8_objectOf s a1) a2)) from ((if_neg c0).trans ((if_neg c1).trans ((if_pos c2).trans ((if_pos c3).trans ((if_neg c4).trans rfl)))))) ((fw_X6_hide h10).trans ((fw_X6_addDefinition h2 h3 h5 h6 h7).trans rfl))
        · by_cases c5 : a4 = 0
          · exact pair_of (P := fun zs => zs k j = s k j) (show (D_X11_define s a1 a2 a3 a4) = ((D_X8_pieces s a1), (D_X6_addDefinition s (D_X8_objectOf s a1) a2 2 a1 (D_X8_pieces s a1))) from ((if_neg c0).trans ((if_neg c1).trans ((if_pos c2).trans ((if_neg c3).trans ((if_pos c5).trans rfl)))))) ((fw_X6_addDefinition h2 h3 h5 h6 h7).trans rfl)
          · exact pair_of (P := fun zs => zs k j = s k j) (show (D_X11_define s a1 a2 a3 a4) = ((D_X8_pieces s a1), (D_X6_hide (D_X6_addDefinition s (D_X8_objectOf s a1) a2 2 a1 (D_X8_pieces s a1)) (D_X8_objectOf s a1) a2)) from ((if_neg c0).trans ((if_neg c1).trans ((if_pos c2).trans ((if_neg c3).trans ((if_neg c5).trans rfl)))))) ((fw_X6_hide h10).trans ((fw_X6_addDefinition h2 h3 h5 h6 h7).trans rfl))
      · exact pair_of (P := fun zs => zs k j = s k j) (show (D_X11_define s a1 a2 a3 a4) = (0, s) from ((if_neg c0).trans ((if_neg c1).trans ((if_neg c2).trans rfl)))) rfl
-- LinkHarbour.common
noncomputable def D_X11_common (s : Sg) (a1 : Int32) (a2 : Int32) (a3 : Int32) (a4 : Int32) : Int32 × Sg := (if (D_X6_has s a1) = 0 then (0, s) else (if (D_X11_isName a2) = 0 then (0, s) else (if a3 < 1 then (0, s) else (if 40 < a3 then (0, s) else (if (D_X11_isAlign a4) = 0 then (0, s) else (if (D_X6_kind s a1 a2) = (-1) then ((D_J6_bitCount_0f7a4 (D_X6_defined (D_X6_addCommon s a1 a2 a3 a4) a1)), (D_X6_addCommon s a1 a2 a3 a4)) else (0, s)))))))
noncomputable def T_X11_common (s : Sg) (a1 : Int32) (a2 : Int32) (a3 : Int32) (a4 : Int32) : Bool := (if (D_X6_has s a1) = 0 then false else (if (D_X11_isName a2) = 0 then false else (if a3 < 1 then false else (if 40 < a3 then false else (if (D_X11_isAlign a4) = 0 then false else (if (D_X6_kind s a1 a2) = (-1) then true else false))))))
theorem m_X11_common (hP : WOK b w H0) {s : Sg} {a1 : Int32} {a2 : Int32} {a3 : Int32} {a4 : Int32} (hN : NN s) (hT : T_X11_common s a1 a2 a3 a4 = true) : Rx sc g_X11_common 3 ((0, [(0, .ref b), (1, .int a1), (2, .int a2), (3, .int a3), (4, .int a4)], [])) (wd b w wl H0 s, kn) (some (.int (D_X11_common s a1 a2 a3 a4).1)) (wd b w wl H0 (D_X11_common s a1 a2 a3 a4).2, kn) := by
  show Rx sc g_X11_common 3 (0, [(0, .ref b), (1, .int a1), (2, .int a2), (3, .int a3), (4, .int a4)], []) (wd b w wl H0 s, kn) (some (.int (D_X11_common s a1 a2 a3 a4).1)) (wd b w wl H0 (D_X11_common s a1 a2 a3 a4).2, kn)
  refine rx_k 1 (1, [(0, .ref b), (1, .int a1), (2, .int a2), (3, .int a3), (4, .int a4)], [.ref b]) (fun _ _ => rfl) ?_
  refine rx_getf rfl rfl (wg_0 hP) rfl ?_
  refine rx_k 1 (5, [(0, .ref b), (1, .int a1), (2, .int a2), (3, .int a3), (4, .int a4)], [.int a1, .ref (b + 1)]) (fun _ _ => rfl) ?_
  refine rx_inv rfl rfl (rc_X6_has hP) rfl rfl rfl (q_recv (wg_1 hP)) rfl rfl ?_
  by_cases c0 : (D_X6_has s a1) = 0
  · refine rx_ifF rfl (nf c0) rfl ?_
    rw [(show T_X11_common s a1 a2 a3 a4 = false from ((if_pos c0).trans rfl))] at hT
    cases hT
  · refine rx_ifT rfl (nt c0) ?_
    refine rx_k 1 (22, [(0, .ref b), (1, .int a1), (2, .int a2), (3, .int a3), (4, .int a4)], [.int a2]) (fun _ _ => rfl) ?_
    refine rx_inv rfl rfl (rc_X11_isName) rfl rfl rfl rfl rfl rfl ?_
    by_cases c1 : (D_X11_isName a2) = 0
    · refine rx_ifT rfl (bt c1) ?_
      rw [(show T_X11_common s a1 a2 a3 a4 = false from ((if_neg c0).trans ((if_pos c1).trans rfl)))] at hT
      cases hT
    · refine rx_ifF rfl (bf c1) rfl ?_
      refine rx_k 2 (30, [(0, .ref b), (1, .int a1), (2, .int a2), (3, .int a3), (4, .int a4)], [.int 1, .int a3]) (fun _ _ => rfl) ?_
      by_cases c2 : a3 < 1
      · refine rx_icT rfl (bt c2) ?_
        rw [(show T_X11_common s a1 a2 a3 a4 = false from ((if_neg c0).trans ((if_neg c1).trans ((if_pos c2).trans rfl))))] at hT
        cases hT
      · refine rx_icF rfl (bf c2) rfl ?_
        refine rx_k 2 (36, [(0, .ref b), (1, .int a1), (2, .int a2), (3, .int a3), (4, .int a4)], [.int 40, .int a3]) (fun _ _ => rfl) ?_
        by_cases c3 : 40 < a3
        · refine rx_icT rfl (bt c3) ?_
          rw [(show T_X11_common s a1 a2 a3 a4 = false from ((if_neg c0).trans ((if_neg c1).trans ((if_neg c2).trans ((if_pos c3).trans rfl)))))] at hT
          cases hT
        · refine rx_icF rfl (bf c3) rfl ?_
          refine rx_k 1 (41, [(0, .ref b), (1, .int a1), (2, .int a2), (3, .int a3), (4, .int a4)], [.int a4]) (fun _ _ => rfl) ?_
          refine rx_inv rfl rfl (rc_X11_isAlign) rfl rfl rfl rfl rfl rfl ?_
          by_cases c4 : (D_X11_isAlign a4) = 0
          · refine rx_ifF rfl (nf c4) rfl ?_
            rw [(show T_X11_common s a1 a2 a3 a4 = false from ((if_neg c0).trans ((if_neg c1).trans ((if_neg c2).trans ((if_neg c3).trans ((if_pos c4).trans rfl))))))] at hT
            cases hT
          · refine rx_ifT rfl (nt c4) ?_
            refine rx_k 1 (58, [(0, .ref b), (1, .int a1), (2, .int a2), (3, .int a3), (4, .int a4)], [.ref b]) (fun _ _ => rfl) ?_
            refine rx_getf rfl rfl (wg_0 hP) rfl ?_
            refine rx_k 2 (63, [(0, .ref b), (1, .int a1), (2, .int a2), (3, .int a3), (4, .int a4)], [.int a2, .int a1, .ref (b + 1)]) (fun _ _ => rfl) ?_
            refine rx_inv rfl rfl (rc_X6_kind hP) rfl rfl rfl (q_recv (wg_1 hP)) rfl rfl ?_
            refine rx_k 1 (67, [(0, .ref b), (1, .int a1), (2, .int a2), (3, .int a3), (4, .int a4)], [.int (-1), .int (D_X6_kind s a1 a2)]) (fun _ _ => rfl) ?_
            by_cases c5 : (D_X6_kind s a1 a2) = (-1)
            · refine rx_icT rfl (bt c5) ?_
              refine rx_k 1 (81, [(0, .ref b), (1, .int a1), (2, .int a2), (3, .int a3), (4, .int a4)], [.ref b]) (fun _ _ => rfl) ?_
              refine rx_getf rfl rfl (wg_0 hP) rfl ?_
              refine rx_k 4 (89, [(0, .ref b), (1, .int a1), (2, .int a2), (3, .int a3), (4, .int a4)], [.int a4, .int a3, .int a2, .int a1, .ref (b + 1)]) (fun _ _ => rfl) ?_
              refine rx_inv rfl rfl (rc_X6_addCommon hP hN) rfl rfl rfl (q_recv (wg_1 hP)) rfl rfl ?_
              refine rx_k 1 (93, [(0, .ref b), (1, .int a1), (2, .int a2), (3, .int a3), (4, .int a4)], [.ref b]) (fun _ _ => rfl) ?_
              refine rx_getf rfl rfl (wg_0 hP) rfl ?_
              refine rx_k 1 (97, [(0, .ref b), (1, .int a1), (2, .int a2), (3, .int a3), (4, .int a4)], [.int a1, .ref (b + 1)]) (fun _ _ => rfl) ?_
              refine rx_inv rfl rfl (rc_X6_defined hP) rfl rfl rfl (q_recv (wg_1 hP)) rfl rfl ?_
              refine rx_inv rfl rfl (rc_J6_bitCount_0f7a4) rfl rfl rfl rfl rfl rfl ?_
              rw [(show (D_X11_common s a1 a2 a3 a4) = ((D_J6_bitCount_0f7a4 (D_X6_defined (D_X6_addCommon s a1 a2 a3 a4) a1)), (D_X6_addCommon s a1 a2 a3 a4)) from ((if_neg c0).trans ((if_neg c1).trans ((if_neg c2).trans ((if_neg c3).trans ((if_neg c4).trans ((if_pos c5).trans rfl)))))))]
              exact rx_ri rfl
            · refine rx_icF rfl (bf c5) rfl ?_
              rw [(show T_X11_common s a1 a2 a3 a4 = false from ((if_neg c0).trans ((if_neg c1).trans ((if_neg c2).trans ((if_neg c3).trans ((if_neg c4).trans ((if_neg c5).trans rfl)))))))] at hT
              cases hT
theorem rc_X11_common (hP : WOK b w H0) {s : Sg} {a1 : Int32} {a2 : Int32} {a3 : Int32} {a4 : Int32} (hN : NN s) (hT : T_X11_common s a1 a2 a3 a4 = true) : Rc sc 4 165 [.ref b, .int a1, .int a2, .int a3, .int a4] (wd b w wl H0 s, kn) (some (.int (D_X11_common s a1 a2 a3 a4).1)) (wd b w wl H0 (D_X11_common s a1 a2 a3 a4).2, kn) := rx_mc (m_X11_common hP hN hT) rfl rfl (Nat.ble_eq_true_of_le (Nat.le_refl _)) (Nat.ble_eq_true_of_le (Nat.le_refl _))
theorem nn_X11_common {s : Sg} {a1 : Int32} {a2 : Int32} {a3 : Int32} {a4 : Int32} (hN : NN s) : NN (D_X11_common s a1 a2 a3 a4).2 := by
  by_cases c0 : (D_X6_has s a1) = 0
  · exact pair_of (P := fun zs => NN zs) (show (D_X11_common s a1 a2 a3 a4) = (0, s) from ((if_pos c0).trans rfl)) hN
  · by_cases c1 : (D_X11_isName a2) = 0
    · exact pair_of (P := fun zs => NN zs) (show (D_X11_common s a1 a2 a3 a4) = (0, s) from ((if_neg c0).trans ((if_pos c1).trans rfl))) hN
    · by_cases c2 : a3 < 1
      · exact pair_of (P := fun zs => NN zs) (show (D_X11_common s a1 a2 a3 a4) = (0, s) from ((if_neg c0).trans ((if_neg c1).trans ((if_pos c2).trans rfl)))) hN
      · by_cases c3 : 40 < a3
        · exact pair_of (P := fun zs => NN zs) (show (D_X11_common s a1 a2 a3 a4) = (0, s) from ((if_neg c0).trans ((if_neg c1).trans ((if_neg c2).trans ((if_pos c3).trans rfl))))) hN
        · by_cases c4 : (D_X11_isAlign a4) = 0
          · exact pair_of (P := fun zs => NN zs) (show (D_X11_common s a1 a2 a3 a4) = (0, s) from ((if_neg c0).trans ((if_neg c1).trans ((if_neg c2).trans ((if_neg c3).trans ((if_pos c4).trans rfl)))))) hN
          · by_cases c5 : (D_X6_kind s a1 a2) = (-1)
            · exact pair_of (P := fun zs => NN zs) (show (D_X11_common s a1 a2 a3 a4) = ((D_J6_bitCount_0f7a4 (D_X6_defined (D_X6_addCommon s a1 a2 a3 a4) a1)), (D_X6_addCommon s a1 a2 a3 a4)) from ((if_neg c0).trans ((if_neg c1).trans ((if_neg c2).trans ((if_neg c3).trans ((if_neg c4).trans ((if_pos c5).trans rfl))))))) (nn_X6_addCommon hN)
            · exact pair_of (P := fun zs => NN zs) (show (D_X11_common s a1 a2 a3 a4) = (0, s) from ((if_neg c0).trans ((if_neg c1).trans ((if_neg c2).trans ((if_neg c3).trans ((if_neg c4).trans ((if_neg c5).trans rfl))))))) hN
theorem fw_X11_common {s : Sg} {a1 : Int32} {a2 : Int32} {a3 : Int32} {a4 : Int32} {k j : Nat} (h2 : k ≠ 2) (h3 : k ≠ 3) (h5 : k ≠ 5) (h6 : k ≠ 6) (h7 : k ≠ 7) (h8 : k ≠ 8) (h9 : k ≠ 9) : (D_X11_common s a1 a2 a3 a4).2 k j = s k j := by
  by_cases c0 : (D_X6_has s a1) = 0
  · exact pair_of (P := fun zs => zs k j = s k j) (show (D_X11_common s a1 a2 a3 a4) = (0, s) from ((if_pos c0).trans rfl)) rfl
  · by_cases c1 : (D_X11_isName a2) = 0
    · exact pair_of (P := fun zs => zs k j = s k j) (show (D_X11_common s a1 a2 a3 a4) = (0, s) from ((if_neg c0).trans ((if_pos c1).trans rfl))) rfl
    · by_cases c2 : a3 < 1
      · exact pair_of (P := fun zs => zs k j = s k j) (show (D_X11_common s a1 a2 a3 a4) = (0, s) from ((if_neg c0).trans ((if_neg c1).trans ((if_pos c2).trans rfl)))) rfl
      · by_cases c3 : 40 < a3
        · exact pair_of (P := fun zs => zs k j = s k j) (show (D_X11_common s a1 a2 a3 a4) = (0, s) from ((if_neg c0).trans ((if_neg c1).trans ((if_neg c2).trans ((if_pos c3).trans rfl))))) rfl
        · by_cases c4 : (D_X11_isAlign a4) = 0
          · exact pair_of (P := fun zs => zs k j = s k j) (show (D_X11_common s a1 a2 a3 a4) = (0, s) from ((if_neg c0).trans ((if_neg c1).trans ((if_neg c2).trans ((if_neg c3).trans ((if_pos c4).trans rfl)))))) rfl
          · by_cases c5 : (D_X6_kind s a1 a2) = (-1)
            · exact pair_of (P := fun zs => zs k j = s k j) (show (D_X11_common s a1 a2 a3 a4) = ((D_J6_bitCount_0f7a4 (D_X6_defined (D_X6_addCommon s a1 a2 a3 a4) a1)), (D_X6_addCommon s a1 a2 a3 a4)) from ((if_neg c0).trans ((if_neg c1).trans ((if_neg c2).trans ((if_neg c3).trans ((if_neg c4).trans ((if_pos c5).trans rfl))))))) ((fw_X6_addCommon h2 h3 h5 h6 h7 h8 h9).trans rfl)
            · exact pair_of (P := fun zs => zs k j = s k j) (show (D_X11_common s a1 a2 a3 a4) = (0, s) from ((if_neg c0).trans ((if_neg c1).trans ((if_neg c2).trans ((if_neg c3).trans ((if_neg c4).trans ((if_neg c5).trans rfl))))))) rfl
-- LinkHarbour.item
noncomputable def D_X11_item (s : Sg) (a1 : Int32) (a2 : Int32) : Int32 × Sg := (if a1 < 1 then (0, s) else (if (D_X6_hasAll s a1) = 0 then (0, s) else (if a2 < 0 then (0, s) else (if a2 ≤ 2 then (if (D_X2_isFull s) = 0 then (if (D_X2_hasAny s a1) = 0 then ((D_X2_add s a1 a2).1, (D_X2_add s a1 a2).2) else (0, s)) else (0, s)) else (0, s)))))
noncomputable def T_X11_item (s : Sg) (a1 : Int32) (a2 : Int32) : Bool := (if a1 < 1 then false else (if (D_X6_hasAll s a1) = 0 then false else (if a2 < 0 then false else (if a2 ≤ 2 then (if (D_X2_isFull s) = 0 then (if (D_X2_hasAny s a1) = 0 then true else false) else false) else false))))
theorem m_X11_item (hP : WOK b w H0) {s : Sg} {a1 : Int32} {a2 : Int32} (hN : NN s) (hT : T_X11_item s a1 a2 = true) : Rx sc g_X11_item 2 ((0, [(0, .ref b), (1, .int a1), (2, .int a2)], [])) (wd b w wl H0 s, kn) (some (.int (D_X11_item s a1 a2).1)) (wd b w wl H0 (D_X11_item s a1 a2).2, kn) := by
  show Rx sc g_X11_item 2 (0, [(0, .ref b), (1, .int a1), (2, .int a2)], []) (wd b w wl H0 s, kn) (some (.int (D_X11_item s a1 a2).1)) (wd b w wl H0 (D_X11_item s a1 a2).2, kn)
  refine rx_k 2 (2, [(0, .ref b), (1, .int a1), (2, .int a2)], [.int 1, .int a1]) (fun _ _ => rfl) ?_
  by_cases c0 : a1 < 1
  · refine rx_icT rfl (bt c0) ?_
    rw [(show T_X11_item s a1 a2 = false from ((if_pos c0).trans rfl))] at hT
    cases hT
  · refine rx_icF rfl (bf c0) rfl ?_
    refine rx_k 1 (6, [(0, .ref b), (1, .int a1), (2, .int a2)], [.ref b]) (fun _ _ => rfl) ?_
    refine rx_getf rfl rfl (wg_0 hP) rfl ?_
    refine rx_k 1 (10, [(0, .ref b), (1, .int a1), (2, .int a2)], [.int a1, .ref (b + 1)]) (fun _ _ => rfl) ?_
    refine rx_inv rfl rfl (rc_X6_hasAll hP) rfl rfl rfl (q_recv (wg_1 hP)) rfl rfl ?_
    by_cases c1 : (D_X6_hasAll s a1) = 0
    · refine rx_ifT rfl (bt c1) ?_
      rw [(show T_X11_item s a1 a2 = false from ((if_neg c0).trans ((if_pos c1).trans rfl)))] at hT
      cases hT
    · refine rx_ifF rfl (bf c1) rfl ?_
      refine rx_k 1 (17, [(0, .ref b), (1, .int a1), (2, .int a2)], [.int a2]) (fun _ _ => rfl) ?_
      by_cases c2 : a2 < 0
      · refine rx_ifT rfl (bt c2) ?_
        rw [(show T_X11_item s a1 a2 = false from ((if_neg c0).trans ((if_neg c1).trans ((if_pos c2).trans rfl))))] at hT
        cases hT
      · refine rx_ifF rfl (bf c2) rfl ?_
        refine rx_k 2 (22, [(0, .ref b), (1, .int a1), (2, .int a2)], [.int 2, .int a2]) (fun _ _ => rfl) ?_
        by_cases c3 : a2 ≤ 2
        · refine rx_icT rfl (bt c3) ?_
          refine rx_k 1 (36, [(0, .ref b), (1, .int a1), (2, .int a2)], [.ref b]) (fun _ _ => rfl) ?_
          refine rx_getf rfl rfl (wg_0 hP) rfl ?_
          refine rx_inv rfl rfl (rc_X2_isFull hP) rfl rfl rfl (q_recv (wg_20 hP)) rfl rfl ?_
          by_cases c4 : (D_X2_isFull s) = 0
          · refine rx_ifF rfl (nf c4) rfl ?_
            refine rx_k 1 (46, [(0, .ref b), (1, .int a1), (2, .int a2)], [.ref b]) (fun _ _ => rfl) ?_
            refine rx_getf rfl rfl (wg_0 hP) rfl ?_
            refine rx_k 1 (50, [(0, .ref b), (1, .int a1), (2, .int a2)], [.int a1, .ref (b + 20)]) (fun _ _ => rfl) ?_
            refine rx_inv rfl rfl (rc_X2_hasAny hP hN) rfl rfl rfl (q_recv (wg_20 hP)) rfl rfl ?_
            by_cases c5 : (D_X2_hasAny s a1) = 0
            · refine rx_ifT rfl (bt c5) ?_
              refine rx_k 1 (67, [(0, .ref b), (1, .int a1), (2, .int a2)], [.ref b]) (fun _ _ => rfl) ?_
              refine rx_getf rfl rfl (wg_0 hP) rfl ?_
              refine rx_k 2 (72, [(0, .ref b), (1, .int a1), (2, .int a2)], [.int a2, .int a1, .ref (b + 20)]) (fun _ _ => rfl) ?_
              refine rx_inv rfl rfl (rc_X2_add hP hN) rfl rfl rfl (q_recv (wg_20 hP)) rfl rfl ?_
              rw [(show (D_X11_item s a1 a2) = ((D_X2_add s a1 a2).1, (D_X2_add s a1 a2).2) from ((if_neg c0).trans ((if_neg c1).trans ((if_neg c2).trans ((if_pos c3).trans ((if_pos c4).trans ((if_pos c5).trans rfl)))))))]
              exact rx_ri rfl
            · refine rx_ifF rfl (bf c5) rfl ?_
              rw [(show T_X11_item s a1 a2 = false from ((if_neg c0).trans ((if_neg c1).trans ((if_neg c2).trans ((if_pos c3).trans ((if_pos c4).trans ((if_neg c5).trans rfl)))))))] at hT
              cases hT
          · refine rx_ifT rfl (nt c4) ?_
            rw [(show T_X11_item s a1 a2 = false from ((if_neg c0).trans ((if_neg c1).trans ((if_neg c2).trans ((if_pos c3).trans ((if_neg c4).trans rfl))))))] at hT
            cases hT
        · refine rx_icF rfl (bf c3) rfl ?_
          rw [(show T_X11_item s a1 a2 = false from ((if_neg c0).trans ((if_neg c1).trans ((if_neg c2).trans ((if_neg c3).trans rfl)))))] at hT
          cases hT
theorem rc_X11_item (hP : WOK b w H0) {s : Sg} {a1 : Int32} {a2 : Int32} (hN : NN s) (hT : T_X11_item s a1 a2 = true) : Rc sc 3 166 [.ref b, .int a1, .int a2] (wd b w wl H0 s, kn) (some (.int (D_X11_item s a1 a2).1)) (wd b w wl H0 (D_X11_item s a1 a2).2, kn) := rx_mc (m_X11_item hP hN hT) rfl rfl (Nat.ble_eq_true_of_le (Nat.le_refl _)) (Nat.ble_eq_true_of_le (Nat.le_refl _))
theorem nn_X11_item {s : Sg} {a1 : Int32} {a2 : Int32} (hN : NN s) : NN (D_X11_item s a1 a2).2 := by
  by_cases c0 : a1 < 1
  · exact pair_of (P := fun zs => NN zs) (show (D_X11_item s a1 a2) = (0, s) from ((if_pos c0).trans rfl)) hN
  · by_cases c1 : (D_X6_hasAll s a1) = 0
    · exact pair_of (P := fun zs => NN zs) (show (D_X11_item s a1 a2) = (0, s) from ((if_neg c0).trans ((if_pos c1).trans rfl))) hN
    · by_cases c2 : a2 < 0
      · exact pair_of (P := fun zs => NN zs) (show (D_X11_item s a1 a2) = (0, s) from ((if_neg c0).trans ((if_neg c1).trans ((if_pos c2).trans rfl)))) hN
      · by_cases c3 : a2 ≤ 2
        · by_cases c4 : (D_X2_isFull s) = 0
          · by_cases c5 : (D_X2_hasAny s a1) = 0
            · exact pair_of (P := fun zs => NN zs) (show (D_X11_item s a1 a2) = ((D_X2_add s a1 a2).1, (D_X2_add s a1 a2).2) from ((if_neg c0).trans ((if_neg c1).trans ((if_neg c2).trans ((if_pos c3).trans ((if_pos c4).trans ((if_pos c5).trans rfl))))))) (nn_X2_add hN)
            · exact pair_of (P := fun zs => NN zs) (show (D_X11_item s a1 a2) = (0, s) from ((if_neg c0).trans ((if_neg c1).trans ((if_neg c2).trans ((if_pos c3).trans ((if_pos c4).trans ((if_neg c5).trans rfl))))))) hN
          · exact pair_of (P := fun zs => NN zs) (show (D_X11_item s a1 a2) = (0, s) from ((if_neg c0).trans ((if_neg c1).trans ((if_neg c2).trans ((if_pos c3).trans ((if_neg c4).trans rfl)))))) hN
        · exact pair_of (P := fun zs => NN zs) (show (D_X11_item s a1 a2) = (0, s) from ((if_neg c0).trans ((if_neg c1).trans ((if_neg c2).trans ((if_neg c3).trans rfl))))) hN
theorem fw_X11_item {s : Sg} {a1 : Int32} {a2 : Int32} {k j : Nat} (h20f2 : k ≠ 20 ∨ j ≠ 2) (h21 : k ≠ 21) (h22 : k ≠ 22) : (D_X11_item s a1 a2).2 k j = s k j := by
  by_cases c0 : a1 < 1
  · exact pair_of (P := fun zs => zs k j = s k j) (show (D_X11_item s a1 a2) = (0, s) from ((if_pos c0).trans rfl)) rfl
  · by_cases c1 : (D_X6_hasAll s a1) = 0
    · exact pair_of (P := fun zs => zs k j = s k j) (show (D_X11_item s a1 a2) = (0, s) from ((if_neg c0).trans ((if_pos c1).trans rfl))) rfl
    · by_cases c2 : a2 < 0
      · exact pair_of (P := fun zs => zs k j = s k j) (show (D_X11_item s a1 a2) = (0, s) from ((if_neg c0).trans ((if_neg c1).trans ((if_pos c2).trans rfl)))) rfl
      · by_cases c3 : a2 ≤ 2
        · by_cases c4 : (D_X2_isFull s) = 0
          · by_cases c5 : (D_X2_hasAny s a1) = 0
            · exact pair_of (P := fun zs => zs k j = s k j) (show (D_X11_item s a1 a2) = ((D_X2_add s a1 a2).1, (D_X2_add s a1 a2).2) from ((if_neg c0).trans ((if_neg c1).trans ((if_neg c2).trans ((if_pos c3).trans ((if_pos c4).trans ((if_pos c5).trans rfl))))))) ((fw_X2_add h20f2 h21 h22).trans rfl)
            · exact pair_of (P := fun zs => zs k j = s k j) (show (D_X11_item s a1 a2) = (0, s) from ((if_neg c0).trans ((if_neg c1).trans ((if_neg c2).trans ((if_pos c3).trans ((if_pos c4).trans ((if_neg c5).trans rfl))))))) rfl
          · exact pair_of (P := fun zs => zs k j = s k j) (show (D_X11_item s a1 a2) = (0, s) from ((if_neg c0).trans ((if_neg c1).trans ((if_neg c2).trans ((if_pos c3).trans ((if_neg c4).trans rfl)))))) rfl
        · exact pair_of (P := fun zs => zs k j = s k j) (show (D_X11_item s a1 a2) = (0, s) from ((if_neg c0).trans ((if_neg c1).trans ((if_neg c2).trans ((if_neg c3).trans rfl))))) rfl
-- LinkHarbour.clear
noncomputable def D_X11_clear (s : Sg) : Int32 × Sg := ((D_X2_removeAll s).1, (D_X2_removeAll s).2)
theorem m_X11_clear (hP : WOK b w H0) {s : Sg} (hN : NN s) : Rx sc g_X11_clear 1 ((0, [(0, .ref b)], [])) (wd b w wl H0 s, kn) (some (.int (D_X11_clear s).1)) (wd b w wl H0 (D_X11_clear s).2, kn) := by
  show Rx sc g_X11_clear 1 (0, [(0, .ref b)], []) (wd b w wl H0 s, kn) (some (.int (D_X11_clear s).1)) (wd b w wl H0 (D_X11_clear s).2, kn)
  refine rx_k 1 (1, [(0, .ref b)], [.ref b]) (fun _ _ => rfl) ?_
  refine rx_getf rfl rfl (wg_0 hP) rfl ?_
  refine rx_inv rfl rfl (rc_X2_removeAll hP hN) rfl rfl rfl (q_recv (wg_20 hP)) rfl rfl ?_
  rw [(show (D_X11_clear s) = ((D_X2_removeAll s).1, (D_X2_removeAll s).2) from rfl)]
  exact rx_ri rfl
theorem rc_X11_clear (hP : WOK b w H0) {s : Sg} (hN : NN s) : Rc sc 2 167 [.ref b] (wd b w wl H0 s, kn) (some (.int (D_X11_clear s).1)) (wd b w wl H0 (D_X11_clear s).2, kn) := rx_mc (m_X11_clear hP hN) rfl rfl (Nat.ble_eq_true_of_le (Nat.le_refl _)) (Nat.ble_eq_true_of_le (Nat.le_refl _))
theorem nn_X11_clear {s : Sg} (hN : NN s) : NN (D_X11_clear s).2 := by
  exact pair_of (P := fun zs => NN zs) (show (D_X11_clear s) = ((D_X2_removeAll s).1, (D_X2_removeAll s).2) from rfl) (nn_X2_removeAll hN)
theorem fw_X11_clear {s : Sg} {k j : Nat} (h20f2 : k ≠ 20 ∨ j ≠ 2) : (D_X11_clear s).2 k j = s k j := by
  exact pair_of (P := fun zs => zs k j = s k j) (show (D_X11_clear s) = ((D_X2_removeAll s).1, (D_X2_removeAll s).2) from rfl) ((fw_X2_removeAll h20f2).trans rfl)
-- LinkHarbour.ofObject
noncomputable def D_X11_ofObject (s : Sg) (a1 : Int32) (a2 : Int32) : Int32 := (if (D_X6_has s a1) = 0 then 0 else (if a2 = 0 then (D_X8_countOf s a1) else (if a2 = 1 then (D_J6_bitCount_0f7a4 (D_X6_defined s a1)) else (if a2 = 2 then (D_X2_itemOf s a1) else (if a2 = 3 then (D_X10_placeOf 38 s a1) else 0)))))
noncomputable def T_X11_ofObject (s : Sg) (a1 : Int32) (a2 : Int32) : Bool := (if (D_X6_has s a1) = 0 then false else (if a2 = 0 then true else (if a2 = 1 then true else (if a2 = 2 then true else (if a2 = 3 then true else false)))))
theorem m_X11_ofObject (hP : WOK b w H0) {s : Sg} {a1 : Int32} {a2 : Int32} (hN : NN s) (hT : T_X11_ofObject s a1 a2 = true) : Rx sc g_X11_ofObject 2 ((0, [(0, .ref b), (1, .int a1), (2, .int a2)], [])) (wd b w wl H0 s, kn) (some (.int (D_X11_ofObject s a1 a2))) (wd b w wl H0 s, kn) := by
  show Rx sc g_X11_ofObject 2 (0, [(0, .ref b), (1, .int a1), (2, .int a2)], []) (wd b w wl H0 s, kn) (some (.int (D_X11_ofObject s a1 a2))) (wd b w wl H0 s, kn)
  refine rx_k 1 (1, [(0, .ref b), (1, .int a1), (2, .int a2)], [.ref b]) (fun _ _ => rfl) ?_
  refine rx_getf rfl rfl (wg_0 hP) rfl ?_
  refine rx_k 1 (5, [(0, .ref b), (1, .int a1), (2, .int a2)], [.int a1, .ref (b + 1)]) (fun _ _ => rfl) ?_
  refine rx_inv rfl rfl (rc_X6_has hP) rfl rfl rfl (q_recv (wg_1 hP)) rfl rfl ?_
  by_cases c0 : (D_X6_has s a1) = 0
  · refine rx_ifF rfl (nf c0) rfl ?_
    rw [(show T_X11_ofObject s a1 a2 = false from ((if_pos c0).trans rfl))] at hT
    cases hT
  · refine rx_ifT rfl (nt c0) ?_
    refine rx_k 1 (22, [(0, .ref b), (1, .int a1), (2, .int a2)], [.int a2]) (fun _ _ => rfl) ?_
    by_cases c1 : a2 = 0
    · refine rx_tsw rfl (by rw [c1]; decide) (by rw [c1]; first | done | rfl) ?_
      refine rx_k 1 (53, [(0, .ref b), (1, .int a1), (2, .int a2)], [.ref b]) (fun _ _ => rfl) ?_
      refine rx_getf rfl rfl (wg_0 hP) rfl ?_
      refine rx_k 1 (57, [(0, .ref b), (1, .int a1), (2, .int a2)], [.int a1, .ref (b + 11)]) (fun _ _ => rfl) ?_
      refine rx_inv rfl rfl (rc_X8_countOf hP hN) rfl rfl rfl (q_recv (wg_11 hP)) rfl rfl ?_
      rw [(show (D_X11_ofObject s a1 a2) = (D_X8_countOf s a1) from ((if_neg c0).trans ((if_pos c1).trans rfl)))]
      exact rx_ri rfl
    · by_cases c2 : a2 = 1
      · refine rx_tsw rfl (by rw [c2]; decide) (by rw [c2]; first | done | rfl) ?_
        refine rx_k 1 (62, [(0, .ref b), (1, .int a1), (2, .int a2)], [.ref b]) (fun _ _ => rfl) ?_
        refine rx_getf rfl rfl (wg_0 hP) rfl ?_
        refine rx_k 1 (66, [(0, .ref b), (1, .int a1), (2, .int a2)], [.int a1, .ref (b + 1)]) (fun _ _ => rfl) ?_
        refine rx_inv rfl rfl (rc_X6_defined hP) rfl rfl rfl (q_recv (wg_1 hP)) rfl rfl ?_
        refine rx_inv rfl rfl (rc_J6_bitCount_0f7a4) rfl rfl rfl rfl rfl rfl ?_
        rw [(show (D_X11_ofObject s a1 a2) = (D_J6_bitCount_0f7a4 (D_X6_defined s a1)) from ((if_neg c0).trans ((if_neg c1).trans ((if_pos c2).trans rfl))))]
        exact rx_ri rfl
      · by_cases c3 : a2 = 2
        · refine rx_tsw rfl (by rw [c3]; decide) (by rw [c3]; first | done | rfl) ?_
          refine rx_k 1 (74, [(0, .ref b), (1, .int a1), (2, .int a2)], [.ref b]) (fun _ _ => rfl) ?_
          refine rx_getf rfl rfl (wg_0 hP) rfl ?_
          refine rx_k 1 (78, [(0, .ref b), (1, .int a1), (2, .int a2)], [.int a1, .ref (b + 20)]) (fun _ _ => rfl) ?_
          refine rx_inv rfl rfl (rc_X2_itemOf hP hN) rfl rfl rfl (q_recv (wg_20 hP)) rfl rfl ?_
          rw [(show (D_X11_ofObject s a1 a2) = (D_X2_itemOf s a1) from ((if_neg c0).trans ((if_neg c1).trans ((if_neg c2).trans ((if_pos c3).trans rfl)))))]
          exact rx_ri rfl
        · by_cases c4 : a2 = 3
          · refine rx_tsw rfl (by rw [c4]; decide) (by rw [c4]; first | done | rfl) ?_
            refine rx_k 1 (83, [(0, .ref b), (1, .int a1), (2, .int a2)], [.ref b]) (fun _ _ => rfl) ?_
            refine rx_getf rfl rfl (wg_0 hP) rfl ?_
            refine rx_getf rfl rfl (wl_0 hP (Or.inl rfl)) rfl ?_
            refine rx_k 1 (90, [(0, .ref b), (1, .int a1), (2, .int a2)], [.int a1, .ref (b + (38 + 3))]) (fun _ _ => rfl) ?_
            refine rx_inv rfl rfl (rc_X10_placeOf hP (Or.inl rfl) hN) rfl rfl rfl (q_recv (wl_3 hP (Or.inl rfl))) rfl rfl ?_
            rw [(show (D_X11_ofObject s a1 a2) = (D_X10_placeOf 38 s a1) from ((if_neg c0).trans ((if_neg c1).trans ((if_neg c2).trans ((if_neg c3).trans ((if_pos c4).trans rfl))))))]
            exact rx_ri rfl
          · rw [(show T_X11_ofObject s a1 a2 = false from ((if_neg c0).trans ((if_neg c1).trans ((if_neg c2).trans ((if_neg c3).trans ((if_neg c4).trans rfl))))))] at hT
            cases hT
theorem rc_X11_ofObject (hP : WOK b w H0) {s : Sg} {a1 : Int32} {a2 : Int32} (hN : NN s) (hT : T_X11_ofObject s a1 a2 = true) : Rc sc 3 168 [.ref b, .int a1, .int a2] (wd b w wl H0 s, kn) (some (.int (D_X11_ofObject s a1 a2))) (wd b w wl H0 s, kn) := rx_mc (m_X11_ofObject hP hN hT) rfl rfl (Nat.ble_eq_true_of_le (Nat.le_refl _)) (Nat.ble_eq_true_of_le (Nat.le_refl _))
theorem tq_ofObject {s : Sg} {a c : Int32} (h1 : ¬ D_X6_has s a = 0) (h : rg c 4) : T_X11_ofObject s a c = true := by
  unfold T_X11_ofObject
  rw [if_neg h1]
  obtain ⟨k, hk, rfl⟩ := q_small h
  match k, hk with
  | 0, _ => rfl
  | 1, _ => rfl
  | 2, _ => rfl
  | 3, _ => rfl
  | k + 4, h => exact absurd h (by omega)
-- LinkHarbour.isReach
noncomputable def D_X11_isReach (a0 : Int32) : Int32 := (if a0 < 1 then 0 else (if 500 < a0 then 0 else 1))
theorem m_X11_isReach {hh : EH} {a0 : Int32} : Rx sc g_X11_isReach 0 ((0, [(0, .int a0)], [])) hh (some (.int (D_X11_isReach a0))) hh := by
  show Rx sc g_X11_isReach 0 (0, [(0, .int a0)], []) hh (some (.int (D_X11_isReach a0))) hh
  refine rx_k 2 (2, [(0, .int a0)], [.int 1, .int a0]) (fun _ _ => rfl) ?_
  by_cases c0 : a0 < 1
  · refine rx_icT rfl (bt c0) ?_
    refine rx_k 1 (17, [(0, .int a0)], [.int 0]) (fun _ _ => rfl) ?_
    rw [(show (D_X11_isReach a0) = 0 from ((if_pos c0).trans rfl))]
    exact rx_ri rfl
  · refine rx_icF rfl (bf c0) rfl ?_
    refine rx_k 2 (9, [(0, .int a0)], [.int 500, .int a0]) (fun _ _ => rfl) ?_
    by_cases c1 : 500 < a0
    · refine rx_icT rfl (bt c1) ?_
      refine rx_k 1 (17, [(0, .int a0)], [.int 0]) (fun _ _ => rfl) ?_
      rw [(show (D_X11_isReach a0) = 0 from ((if_neg c0).trans ((if_pos c1).trans rfl)))]
      exact rx_ri rfl
    · refine rx_icF rfl (bf c1) rfl ?_
      refine rx_k 2 (17, [(0, .int a0)], [.int 1]) (fun _ _ => rfl) ?_
      rw [(show (D_X11_isReach a0) = 1 from ((if_neg c0).trans ((if_neg c1).trans rfl)))]
      exact rx_ri rfl
theorem bz_X11_isReach {a0 : Int32} : bz (D_X11_isReach a0) = true := by
  by_cases c0 : a0 < 1
  · rw [show (D_X11_isReach a0) = 0 from ((if_pos c0).trans rfl)]
    exact rfl
  · by_cases c1 : 500 < a0
    · rw [show (D_X11_isReach a0) = 0 from ((if_neg c0).trans ((if_pos c1).trans rfl))]
      exact rfl
    · rw [show (D_X11_isReach a0) = 1 from ((if_neg c0).trans ((if_neg c1).trans rfl))]
      exact rfl
theorem rc_X11_isReach {hh : EH} {a0 : Int32} : Rc sc 1 195 [.int a0] hh (some (.int (D_X11_isReach a0))) hh := rx_mc (m_X11_isReach) rfl (bz_X11_isReach ..) (Nat.ble_eq_true_of_le (Nat.le_refl _)) (Nat.ble_eq_true_of_le (Nat.le_refl _))
-- LinkHarbour.bounds
noncomputable def D_X11_bounds (s : Sg) (a1 : Int32) (a2 : Int32) : Int32 × Sg := (if (D_X11_isReach a1) = 0 then (0, s) else (if a2 < 0 then (0, s) else (if a2 ≤ 9999 then ((s 0 7), (up (up s 0 7 a1) 0 8 a2)) else (0, s))))
noncomputable def T_X11_bounds (s : Sg) (a1 : Int32) (a2 : Int32) : Bool := (if (D_X11_isReach a1) = 0 then false else (if a2 < 0 then false else (if a2 ≤ 9999 then true else false)))
theorem m_X11_bounds (hP : WOK b w H0) {s : Sg} {a1 : Int32} {a2 : Int32} (hN : NN s) (hT : T_X11_bounds s a1 a2 = true) : Rx sc g_X11_bounds 1 ((0, [(0, .ref b), (1, .int a1), (2, .int a2)], [])) (wd b w wl H0 s, kn) (some (.int (D_X11_bounds s a1 a2).1)) (wd b w wl H0 (D_X11_bounds s a1 a2).2, kn) := by
  show Rx sc g_X11_bounds 1 (0, [(0, .ref b), (1, .int a1), (2, .int a2)], []) (wd b w wl H0 s, kn) (some (.int (D_X11_bounds s a1 a2).1)) (wd b w wl H0 (D_X11_bounds s a1 a2).2, kn)
  refine rx_k 1 (1, [(0, .ref b), (1, .int a1), (2, .int a2)], [.int a1]) (fun _ _ => rfl) ?_
  refine rx_inv rfl rfl (rc_X11_isReach) rfl rfl rfl rfl rfl rfl ?_
  by_cases c0 : (D_X11_isReach a1) = 0
  · refine rx_ifT rfl (bt c0) ?_
    rw [(show T_X11_bounds s a1 a2 = false from ((if_pos c0).trans rfl))] at hT
    cases hT
  · refine rx_ifF rfl (bf c0) rfl ?_
    refine rx_k 1 (8, [(0, .ref b), (1, .int a1), (2, .int a2)], [.int a2]) (fun _ _ => rfl) ?_
    by_cases c1 : a2 < 0
    · refine rx_ifT rfl (bt c1) ?_
      rw [(show T_X11_bounds s a1 a2 = false from ((if_neg c0).trans ((if_pos c1).trans rfl)))] at hT
      cases hT
    · refine rx_ifF rfl (bf c1) rfl ?_
      refine rx_k 2 (15, [(0, .ref b), (1, .int a1), (2, .int a2)], [.int 9999, .int a2]) (fun _ _ => rfl) ?_
      by_cases c2 : a2 ≤ 9999
      · refine rx_icT rfl (bt c2) ?_
        refine rx_k 1 (29, [(0, .ref b), (1, .int a1), (2, .int a2)], [.ref b]) (fun _ _ => rfl) ?_
        refine rx_getf rfl rfl (wg_0 hP) rfl ?_
        refine rx_k 3 (35, [(3, .int (s 0 7)), (0, .ref b), (1, .int a1), (2, .int a2)], [.int a1, .ref b]) (fun _ _ => rfl) ?_
        refine rx_putf rfl rfl (wg_0 hP) rfl (ws_0_7 hP) ?_
        refine rx_k 2 (40, [(3, .int (s 0 7)), (0, .ref b), (1, .int a1), (2, .int a2)], [.int a2, .ref b]) (fun _ _ => rfl) ?_
        refine rx_putf rfl rfl (wg_0 hP) rfl (ws_0_8 hP) ?_
        refine rx_k 1 (44, [(3, .int (s 0 7)), (0, .ref b), (1, .int a1), (2, .int a2)], [.int (s 0 7)]) (fun _ _ => rfl) ?_
        rw [(show (D_X11_bounds s a1 a2) = ((s 0 7), (up (up s 0 7 a1) 0 8 a2)) from ((if_neg c0).trans ((if_neg c1).trans ((if_pos c2).trans rfl))))]
        exact rx_ri rfl
      · refine rx_icF rfl (bf c2) rfl ?_
        rw [(show T_X11_bounds s a1 a2 = false from ((if_neg c0).trans ((if_neg c1).trans ((if_neg c2).trans rfl))))] at hT
        cases hT
theorem rc_X11_bounds (hP : WOK b w H0) {s : Sg} {a1 : Int32} {a2 : Int32} (hN : NN s) (hT : T_X11_bounds s a1 a2 = true) : Rc sc 2 169 [.ref b, .int a1, .int a2] (wd b w wl H0 s, kn) (some (.int (D_X11_bounds s a1 a2).1)) (wd b w wl H0 (D_X11_bounds s a1 a2).2, kn) := rx_mc (m_X11_bounds hP hN hT) rfl rfl (Nat.ble_eq_true_of_le (Nat.le_refl _)) (Nat.ble_eq_true_of_le (Nat.le_refl _))
theorem nn_X11_bounds {s : Sg} {a1 : Int32} {a2 : Int32} (hN : NN s) : NN (D_X11_bounds s a1 a2).2 := by
  by_cases c0 : (D_X11_isReach a1) = 0
  · exact pair_of (P := fun zs => NN zs) (show (D_X11_bounds s a1 a2) = (0, s) from ((if_pos c0).trans rfl)) hN
  · by_cases c1 : a2 < 0
    · exact pair_of (P := fun zs => NN zs) (show (D_X11_bounds s a1 a2) = (0, s) from ((if_neg c0).trans ((if_pos c1).trans rfl))) hN
    · by_cases c2 : a2 ≤ 9999
      · exact pair_of (P := fun zs => NN zs) (show (D_X11_bounds s a1 a2) = ((s 0 7), (up (up s 0 7 a1) 0 8 a2)) from ((if_neg c0).trans ((if_neg c1).trans ((if_pos c2).trans rfl)))) (nn_0 rfl (nn_0 rfl hN))
      · exact pair_of (P := fun zs => NN zs) (show (D_X11_bounds s a1 a2) = (0, s) from ((if_neg c0).trans ((if_neg c1).trans ((if_neg c2).trans rfl)))) hN
theorem fw_X11_bounds {s : Sg} {a1 : Int32} {a2 : Int32} {k j : Nat} (h0f7 : k ≠ 0 ∨ j ≠ 7) (h0f8 : k ≠ 0 ∨ j ≠ 8) : (D_X11_bounds s a1 a2).2 k j = s k j := by
  by_cases c0 : (D_X11_isReach a1) = 0
  · exact pair_of (P := fun zs => zs k j = s k j) (show (D_X11_bounds s a1 a2) = (0, s) from ((if_pos c0).trans rfl)) rfl
  · by_cases c1 : a2 < 0
    · exact pair_of (P := fun zs => zs k j = s k j) (show (D_X11_bounds s a1 a2) = (0, s) from ((if_neg c0).trans ((if_pos c1).trans rfl))) rfl
    · by_cases c2 : a2 ≤ 9999
      · exact pair_of (P := fun zs => zs k j = s k j) (show (D_X11_bounds s a1 a2) = ((s 0 7), (up (up s 0 7 a1) 0 8 a2)) from ((if_neg c0).trans ((if_neg c1).trans ((if_pos c2).trans rfl)))) ((up_f h0f8).trans ((up_f h0f7).trans rfl))
      · exact pair_of (P := fun zs => zs k j = s k j) (show (D_X11_bounds s a1 a2) = (0, s) from ((if_neg c0).trans ((if_neg c1).trans ((if_neg c2).trans rfl)))) rfl
-- LinkHarbour.link
noncomputable def R_X11_link_cut (wl : Nat) (s : Sg) : Int32 × Sg := ((D_X0_count 38 s), s)
theorem r_X11_link_cut (hP : WOK b w H0) (hW : wl < 2000000) {s : Sg} (hN : NN s) : Rx sc g_X11_link 6 ((46, [(0, .ref b)], [])) (wd b w wl H0 s, kn) (some (.int (R_X11_link_cut wl s).1)) (wd b w wl H0 (R_X11_link_cut wl s).2, kn) := by
  show Rx sc g_X11_link 6 (46, [(0, .ref b)], []) (wd b w wl H0 s, kn) (some (.int (R_X11_link_cut wl s).1)) (wd b w wl H0 (R_X11_link_cut wl s).2, kn)
  refine rx_k 1 (47, [(0, .ref b)], [.ref b]) (fun _ _ => rfl) ?_
  refine rx_getf rfl rfl (wg_0 hP) rfl ?_
  refine rx_getf rfl rfl (wl_0 hP (Or.inl rfl)) rfl ?_
  refine rx_inv rfl rfl (rc_X0_count hP (Or.inl rfl)) rfl rfl rfl (q_recv (wl_1 hP (Or.inl rfl))) rfl rfl ?_
  rw [(show (R_X11_link_cut wl s) = ((D_X0_count 38 s), s) from rfl)]
  exact rx_ri rfl
theorem nr_X11_link_cut {wl : Nat} {s : Sg} (hN : NN s) : NN ((R_X11_link_cut wl s).2) := by
  exact pair_of (P := fun zs => NN zs) (show (R_X11_link_cut wl s) = ((D_X0_count 38 s), s) from rfl) hN
-- LinkHarbour.ofSection
noncomputable def D_X11_ofSection (s : Sg) (a1 : Int32) (a2 : Int32) : Int32 := (if (D_X8_has s a1) = 0 then 0 else (if a2 = 0 then (D_X8_objectOf s a1) else (if a2 = 1 then (D_X8_align s a1) else (if a2 = 2 then (D_X8_pieces s a1) else (if a2 = 3 then (if (D_X7_hasSection 38 s a1) = 0 then 0 else 1) else (if a2 = 4 then (D_X3_addressOf 38 s a1) else (if a2 = 5 then (D_X3_wordsOf 38 s a1) else (if a2 = 6 then (D_X3_longsOf 38 s a1) else 0))))))))
noncomputable def T_X11_ofSection (s : Sg) (a1 : Int32) (a2 : Int32) : Bool := (if (D_X8_has s a1) = 0 then false else (if a2 = 0 then true else (if a2 = 1 then true else (if a2 = 2 then true else (if a2 = 3 then (if (D_X7_hasSection 38 s a1) = 0 then true else true) else (if a2 = 4 then true else (if a2 = 5 then true else (if a2 = 6 then true else false))))))))
theorem m_X11_ofSection (hP : WOK b w H0) {s : Sg} {a1 : Int32} {a2 : Int32} (hT : T_X11_ofSection s a1 a2 = true) : Rx sc g_X11_ofSection 3 ((0, [(0, .ref b), (1, .int a1), (2, .int a2)], [])) (wd b w wl H0 s, kn) (some (.int (D_X11_ofSection s a1 a2))) (wd b w wl H0 s, kn) := by
  show Rx sc g_X11_ofSection 3 (0, [(0, .ref b), (1, .int a1), (2, .int a2)], []) (wd b w wl H0 s, kn) (some (.int (D_X11_ofSection s a1 a2))) (wd b w wl H0 s, kn)
  refine rx_k 1 (1, [(0, .ref b), (1, .int a1), (2, .int a2)], [.ref b]) (fun _ _ => rfl) ?_
  refine rx_getf rfl rfl (wg_0 hP) rfl ?_
  refine rx_k 1 (5, [(0, .ref b), (1, .int a1), (2, .int a2)], [.int a1, .ref (b + 11)]) (fun _ _ => rfl) ?_
  refine rx_inv rfl rfl (rc_X8_has hP) rfl rfl rfl (q_recv (wg_11 hP)) rfl rfl ?_
  by_cases c0 : (D_X8_has s a1) = 0
  · refine rx_ifF rfl (nf c0) rfl ?_
    rw [(show T_X11_ofSection s a1 a2 = false from ((if_pos c0).trans rfl))] at hT
    cases hT
  · refine rx_ifT rfl (nt c0) ?_
    refine rx_k 1 (22, [(0, .ref b), (1, .int a1), (2, .int a2)], [.int a2]) (fun _ _ => rfl) ?_
    by_cases c1 : a2 = 0
    · refine rx_tsw rfl (by rw [c1]; decide) (by rw [c1]; first | done | rfl) ?_
      refine rx_k 1 (65, [(0, .ref b), (1, .int a1), (2, .int a2)], [.ref b]) (fun _ _ => rfl) ?_
      refine rx_getf rfl rfl (wg_0 hP) rfl ?_
      refine rx_k 1 (69, [(0, .ref b), (1, .int a1), (2, .int a2)], [.int a1, .ref (b + 11)]) (fun _ _ => rfl) ?_
      refine rx_inv rfl rfl (rc_X8_objectOf hP) rfl rfl rfl (q_recv (wg_11 hP)) rfl rfl ?_
      rw [(show (D_X11_ofSection s a1 a2) = (D_X8_objectOf s a1) from ((if_neg c0).trans ((if_pos c1).trans rfl)))]
      exact rx_ri rfl
    · by_cases c2 : a2 = 1
      · refine rx_tsw rfl (by rw [c2]; decide) (by rw [c2]; first | done | rfl) ?_
        refine rx_k 1 (74, [(0, .ref b), (1, .int a1), (2, .int a2)], [.ref b]) (fun _ _ => rfl) ?_
        refine rx_getf rfl rfl (wg_0 hP) rfl ?_
        refine rx_k 1 (78, [(0, .ref b), (1, .int a1), (2, .int a2)], [.int a1, .ref (b + 11)]) (fun _ _ => rfl) ?_
        refine rx_inv rfl rfl (rc_X8_align hP) rfl rfl rfl (q_recv (wg_11 hP)) rfl rfl ?_
        rw [(show (D_X11_ofSection s a1 a2) = (D_X8_align s a1) from ((if_neg c0).trans ((if_neg c1).trans ((if_pos c2).trans rfl))))]
        exact rx_ri rfl
      · by_cases c3 : a2 = 2
        · refine rx_tsw rfl (by rw [c3]; decide) (by rw [c3]; first | done | rfl) ?_
          refine rx_k 1 (83, [(0, .ref b), (1, .int a1), (2, .int a2)], [.ref b]) (fun _ _ => rfl) ?_
          refine rx_getf rfl rfl (wg_0 hP) rfl ?_
          refine rx_k 1 (87, [(0, .ref b), (1, .int a1), (2, .int a2)], [.int a1, .ref (b + 11)]) (fun _ _ => rfl) ?_
          refine rx_inv rfl rfl (rc_X8_pieces hP) rfl rfl rfl (q_recv (wg_11 hP)) rfl rfl ?_
          rw [(show (D_X11_ofSection s a1 a2) = (D_X8_pieces s a1) from ((if_neg c0).trans ((if_neg c1).trans ((if_neg c2).trans ((if_pos c3).trans rfl)))))]
          exact rx_ri rfl
        · by_cases c4 : a2 = 3
          · refine rx_tsw rfl (by rw [c4]; decide) (by rw [c4]; first | done | rfl) ?_
            refine rx_k 1 (92, [(0, .ref b), (1, .int a1), (2, .int a2)], [.ref b]) (fun _ _ => rfl) ?_
            refine rx_getf rfl rfl (wg_0 hP) rfl ?_
            refine rx_getf rfl rfl (wl_0 hP (Or.inl rfl)) rfl ?_
            refine rx_k 1 (99, [(0, .ref b), (1, .int a1), (2, .int a2)], [.int a1, .ref (b + (38 + 12))]) (fun _ _ => rfl) ?_
            refine rx_inv rfl rfl (rc_X7_hasSection hP (Or.inl rfl)) rfl rfl rfl (q_recv (wl_12 hP (Or.inl rfl))) rfl rfl ?_
            by_cases c5 : (D_X7_hasSection 38 s a1) = 0
            · refine rx_ifT rfl (bt c5) ?_
              refine rx_k 1 (110, [(0, .ref b), (1, .int a1), (2, .int a2)], [.int 0]) (fun _ _ => rfl) ?_
              rw [(show (D_X11_ofSection s a1 a2) = 0 from ((if_neg c0).trans ((if_neg c1).trans ((if_neg c2).trans ((if_neg c3).trans ((if_pos c4).trans ((if_pos c5).trans rfl)))))))]
              exact rx_ri rfl
            · refine rx_ifF rfl (bf c5) rfl ?_
              refine rx_k 2 (110, [(0, .ref b), (1, .int a1), (2, .int a2)], [.int 1]) (fun _ _ => rfl) ?_
              rw [(show (D_X11_ofSection s a1 a2) = 1 from ((if_neg c0).trans ((if_neg c1).trans ((if_neg c2).trans ((if_neg c3).trans ((if_pos c4).trans ((if_neg c5).trans rfl)))))))]
              exact rx_ri rfl
          · by_cases c6 : a2 = 4
            · refine rx_tsw rfl (by rw [c6]; decide) (by rw [c6]; first | done | rfl) ?_
              refine rx_k 1 (112, [(0, .ref b), (1, .int a1), (2, .int a2)], [.ref b]) (fun _ _ => rfl) ?_
              refine rx_getf rfl rfl (wg_0 hP) rfl ?_
              refine rx_getf rfl rfl (wl_0 hP (Or.inl rfl)) rfl ?_
              refine rx_k 1 (119, [(0, .ref b), (1, .int a1), (2, .int a2)], [.int a1, .ref (b + (38 + 15))]) (fun _ _ => rfl) ?_
              refine rx_inv rfl rfl (rc_X3_addressOf hP (Or.inl rfl)) rfl rfl rfl (q_recv (wl_15 hP (Or.inl rfl))) rfl rfl ?_
              rw [(show (D_X11_ofSection s a1 a2) = (D_X3_addressOf 38 s a1) from ((if_neg c0).trans ((if_neg c1).trans ((if_neg c2).trans ((if_neg c3).trans ((if_neg c4).trans ((if_pos c6).trans rfl)))))))]
              exact rx_ri rfl
            · by_cases c7 : a2 = 5
              · refine rx_tsw rfl (by rw [c7]; decide) (by rw [c7]; first | done | rfl) ?_
                refine rx_k 1 (124, [(0, .ref b), (1, .int a1), (2, .int a2)], [.ref b]) (fun _ _ => rfl) ?_
                refine rx_getf rfl rfl (wg_0 hP) rfl ?_
                refine rx_getf rfl rfl (wl_0 hP (Or.inl rfl)) rfl ?_
                refine rx_k 1 (131, [(0, .ref b), (1, .int a1), (2, .int a2)], [.int a1, .ref (b + (38 + 15))]) (fun _ _ => rfl) ?_
                refine rx_inv rfl rfl (rc_X3_wordsOf hP (Or.inl rfl)) rfl rfl rfl (q_recv (wl_15 hP (Or.inl rfl))) rfl rfl ?_
                rw [(show (D_X11_ofSection s a1 a2) = (D_X3_wordsOf 38 s a1) from ((if_neg c0).trans ((if_neg c1).trans ((if_neg c2).trans ((if_neg c3).trans ((if_neg c4).trans ((if_neg c6).trans ((if_pos c7).trans rfl))))))))]
                exact rx_ri rfl
              · by_cases c8 : a2 = 6
                · refine rx_tsw rfl (by rw [c8]; decide) (by rw [c8]; first | done | rfl) ?_
                  refine rx_k 1 (136, [(0, .ref b), (1, .int a1), (2, .int a2)], [.ref b]) (fun _ _ => rfl) ?_
                  refine rx_getf rfl rfl (wg_0 hP) rfl ?_
                  refine rx_getf rfl rfl (wl_0 hP (Or.inl rfl)) rfl ?_
                  refine rx_k 1 (143, [(0, .ref b), (1, .int a1), (2, .int a2)], [.int a1, .ref (b + (38 + 15))]) (fun _ _ => rfl) ?_
                  refine rx_inv rfl rfl (rc_X3_longsOf hP (Or.inl rfl)) rfl rfl rfl (q_recv (wl_15 hP (Or.inl rfl))) rfl rfl ?_
                  rw [(show (D_X11_ofSection s a1 a2) = (D_X3_longsOf 38 s a1) from ((if_neg c0).trans ((if_neg c1).trans ((if_neg c2).trans ((if_neg c3).trans ((if_neg c4).trans ((if_neg c6).trans ((if_neg c7).trans ((if_pos c8).trans rfl)))))))))]
                  exact rx_ri rfl
                · rw [(show T_X11_ofSection s a1 a2 = false from ((if_neg c0).trans ((if_neg c1).trans ((if_neg c2).trans ((if_neg c3).trans ((if_neg c4).trans ((if_neg c6).trans ((if_neg c7).trans ((if_neg c8).trans rfl)))))))))] at hT
                  cases hT
theorem rc_X11_ofSection (hP : WOK b w H0) {s : Sg} {a1 : Int32} {a2 : Int32} (hT : T_X11_ofSection s a1 a2 = true) : Rc sc 4 171 [.ref b, .int a1, .int a2] (wd b w wl H0 s, kn) (some (.int (D_X11_ofSection s a1 a2))) (wd b w wl H0 s, kn) := rx_mc (m_X11_ofSection hP hT) rfl rfl (Nat.ble_eq_true_of_le (Nat.le_refl _)) (Nat.ble_eq_true_of_le (Nat.le_refl _))
theorem tq_ofSection {s : Sg} {a c : Int32} (h1 : ¬ D_X8_has s a = 0) (h : rg c 7) : T_X11_ofSection s a c = true := by
  unfold T_X11_ofSection
  rw [if_neg h1, ite_self]
  obtain ⟨k, hk, rfl⟩ := q_small h
  match k, hk with
  | 0, _ => rfl
  | 1, _ => rfl
  | 2, _ => rfl
  | 3, _ => rfl
  | 4, _ => rfl
  | 5, _ => rfl
  | 6, _ => rfl
  | k + 7, h => exact absurd h (by omega)
-- LinkHarbour.ofName
noncomputable def D_X11_ofName (s : Sg) (a1 : Int32) (a2 : Int32) : Int32 := (if (D_X11_isName a1) = 0 then 0 else (if a2 = 0 then (D_X9_kind 38 s a1) else (if a2 = 1 then (D_X9_objectOf 38 s a1) else (if a2 = 2 then (D_X3_addressOfName 38 s a1) else (if a2 = 3 then (if (D_X7_isImport 38 s a1) = 0 then 0 else 1) else (if a2 = 4 then (D_X7_references 38 s a1) else 0))))))
noncomputable def T_X11_ofName (s : Sg) (a1 : Int32) (a2 : Int32) : Bool := (if (D_X11_isName a1) = 0 then false else (if a2 = 0 then true else (if a2 = 1 then true else (if a2 = 2 then true else (if a2 = 3 then (if (D_X7_isImport 38 s a1) = 0 then true else true) else (if a2 = 4 then true else false))))))
theorem m_X11_ofName (hP : WOK b w H0) {s : Sg} {a1 : Int32} {a2 : Int32} (hT : T_X11_ofName s a1 a2 = true) : Rx sc g_X11_ofName 2 ((0, [(0, .ref b), (1, .int a1), (2, .int a2)], [])) (wd b w wl H0 s, kn) (some (.int (D_X11_ofName s a1 a2))) (wd b w wl H0 s, kn) := by
  show Rx sc g_X11_ofName 2 (0, [(0, .ref b), (1, .int a1), (2, .int a2)], []) (wd b w wl H0 s, kn) (some (.int (D_X11_ofName s a1 a2))) (wd b w wl H0 s, kn)
  refine rx_k 1 (1, [(0, .ref b), (1, .int a1), (2, .int a2)], [.int a1]) (fun _ _ => rfl) ?_
  refine rx_inv rfl rfl (rc_X11_isName) rfl rfl rfl rfl rfl rfl ?_
  by_cases c0 : (D_X11_isName a1) = 0
  · refine rx_ifF rfl (nf c0) rfl ?_
    rw [(show T_X11_ofName s a1 a2 = false from ((if_pos c0).trans rfl))] at hT
    cases hT
  · refine rx_ifT rfl (nt c0) ?_
    refine rx_k 1 (18, [(0, .ref b), (1, .int a1), (2, .int a2)], [.int a2]) (fun _ _ => rfl) ?_
    by_cases c1 : a2 = 0
    · refine rx_tsw rfl (by rw [c1]; decide) (by rw [c1]; first | done | rfl) ?_
      refine rx_k 1 (53, [(0, .ref b), (1, .int a1), (2, .int a2)], [.ref b]) (fun _ _ => rfl) ?_
      refine rx_getf rfl rfl (wg_0 hP) rfl ?_
      refine rx_getf rfl rfl (wl_0 hP (Or.inl rfl)) rfl ?_
      refine rx_k 1 (60, [(0, .ref b), (1, .int a1), (2, .int a2)], [.int a1, .ref (b + (38 + 5))]) (fun _ _ => rfl) ?_
      refine rx_inv rfl rfl (rc_X9_kind hP (Or.inl rfl)) rfl rfl rfl (q_recv (wl_5 hP (Or.inl rfl))) rfl rfl ?_
      rw [(show (D_X11_ofName s a1 a2) = (D_X9_kind 38 s a1) from ((if_neg c0).trans ((if_pos c1).trans rfl)))]
      exact rx_ri rfl
    · by_cases c2 : a2 = 1
      · refine rx_tsw rfl (by rw [c2]; decide) (by rw [c2]; first | done | rfl) ?_
        refine rx_k 1 (65, [(0, .ref b), (1, .int a1), (2, .int a2)], [.ref b]) (fun _ _ => rfl) ?_
        refine rx_getf rfl rfl (wg_0 hP) rfl ?_
        refine rx_getf rfl rfl (wl_0 hP (Or.inl rfl)) rfl ?_
        refine rx_k 1 (72, [(0, .ref b), (1, .int a1), (2, .int a2)], [.int a1, .ref (b + (38 + 5))]) (fun _ _ => rfl) ?_
        refine rx_inv rfl rfl (rc_X9_objectOf hP (Or.inl rfl)) rfl rfl rfl (q_recv (wl_5 hP (Or.inl rfl))) rfl rfl ?_
        rw [(show (D_X11_ofName s a1 a2) = (D_X9_objectOf 38 s a1) from ((if_neg c0).trans ((if_neg c1).trans ((if_pos c2).trans rfl))))]
        exact rx_ri rfl
      · by_cases c3 : a2 = 2
        · refine rx_tsw rfl (by rw [c3]; decide) (by rw [c3]; first | done | rfl) ?_
          refine rx_k 1 (77, [(0, .ref b), (1, .int a1), (2, .int a2)], [.ref b]) (fun _ _ => rfl) ?_
          refine rx_getf rfl rfl (wg_0 hP) rfl ?_
          refine rx_getf rfl rfl (wl_0 hP (Or.inl rfl)) rfl ?_
          refine rx_k 1 (84, [(0, .ref b), (1, .int a1), (2, .int a2)], [.int a1, .ref (b + (38 + 15))]) (fun _ _ => rfl) ?_
          refine rx_inv rfl rfl (rc_X3_addressOfName hP (Or.inl rfl)) rfl rfl rfl (q_recv (wl_15 hP (Or.inl rfl))) rfl rfl ?_
          rw [(show (D_X11_ofName s a1 a2) = (D_X3_addressOfName 38 s a1) from ((if_neg c0).trans ((if_neg c1).trans ((if_neg c2).trans ((if_pos c3).trans rfl)))))]
          exact rx_ri rfl
        · by_cases c4 : a2 = 3
          · refine rx_tsw rfl (by rw [c4]; decide) (by rw [c4]; first | done | rfl) ?_
            refine rx_k 1 (89, [(0, .ref b), (1, .int a1), (2, .int a2)], [.ref b]) (fun _ _ => rfl) ?_
            refine rx_getf rfl rfl (wg_0 hP) rfl ?_
            refine rx_getf rfl rfl (wl_0 hP (Or.inl rfl)) rfl ?_
            refine rx_k 1 (96, [(0, .ref b), (1, .int a1), (2, .int a2)], [.int a1, .ref (b + (38 + 12))]) (fun _ _ => rfl) ?_
            refine rx_inv rfl rfl (rc_X7_isImport hP (Or.inl rfl)) rfl rfl rfl (q_recv (wl_12 hP (Or.inl rfl))) rfl rfl ?_
            by_cases c5 : (D_X7_isImport 38 s a1) = 0
            · refine rx_ifT rfl (bt c5) ?_
              refine rx_k 1 (107, [(0, .ref b), (1, .int a1), (2, .int a2)], [.int 0]) (fun _ _ => rfl) ?_
              rw [(show (D_X11_ofName s a1 a2) = 0 from ((if_neg c0).trans ((if_neg c1).trans ((if_neg c2).trans ((if_neg c3).trans ((if_pos c4).trans ((if_pos c5).trans rfl)))))))]
              exact rx_ri rfl
            · refine rx_ifF rfl (bf c5) rfl ?_
              refine rx_k 2 (107, [(0, .ref b), (1, .int a1), (2, .int a2)], [.int 1]) (fun _ _ => rfl) ?_
              rw [(show (D_X11_ofName s a1 a2) = 1 from ((if_neg c0).trans ((if_neg c1).trans ((if_neg c2).trans ((if_neg c3).trans ((if_pos c4).trans ((if_neg c5).trans rfl)))))))]
              exact rx_ri rfl
          · by_cases c6 : a2 = 4
            · refine rx_tsw rfl (by rw [c6]; decide) (by rw [c6]; first | done | rfl) ?_
              refine rx_k 1 (109, [(0, .ref b), (1, .int a1), (2, .int a2)], [.ref b]) (fun _ _ => rfl) ?_
              refine rx_getf rfl rfl (wg_0 hP) rfl ?_
              refine rx_getf rfl rfl (wl_0 hP (Or.inl rfl)) rfl ?_
              refine rx_k 1 (116, [(0, .ref b), (1, .int a1), (2, .int a2)], [.int a1, .ref (b + (38 + 12))]) (fun _ _ => rfl) ?_
              refine rx_inv rfl rfl (rc_X7_references hP (Or.inl rfl)) rfl rfl rfl (q_recv (wl_12 hP (Or.inl rfl))) rfl rfl ?_
              rw [(show (D_X11_ofName s a1 a2) = (D_X7_references 38 s a1) from ((if_neg c0).trans ((if_neg c1).trans ((if_neg c2).trans ((if_neg c3).trans ((if_neg c4).trans ((if_pos c6).trans rfl)))))))]
              exact rx_ri rfl
            · rw [(show T_X11_ofName s a1 a2 = false from ((if_neg c0).trans ((if_neg c1).trans ((if_neg c2).trans ((if_neg c3).trans ((if_neg c4).trans ((if_neg c6).trans rfl)))))))] at hT
              cases hT
theorem rc_X11_ofName (hP : WOK b w H0) {s : Sg} {a1 : Int32} {a2 : Int32} (hT : T_X11_ofName s a1 a2 = true) : Rc sc 3 172 [.ref b, .int a1, .int a2] (wd b w wl H0 s, kn) (some (.int (D_X11_ofName s a1 a2))) (wd b w wl H0 s, kn) := rx_mc (m_X11_ofName hP hT) rfl rfl (Nat.ble_eq_true_of_le (Nat.le_refl _)) (Nat.ble_eq_true_of_le (Nat.le_refl _))
theorem tq_ofName {s : Sg} {a c : Int32} (h1 : rg a 20) (h : rg c 5) : T_X11_ofName s a c = true := by
  unfold T_X11_ofName
  rw [if_neg (isName_rg h1), ite_self]
  obtain ⟨k, hk, rfl⟩ := q_small h
  match k, hk with
  | 0, _ => rfl
  | 1, _ => rfl
  | 2, _ => rfl
  | 3, _ => rfl
  | 4, _ => rfl
  | k + 5, h => exact absurd h (by omega)
end DD
