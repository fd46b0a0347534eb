section DD
variable {sc : Nat × (Nat → Int32)} {b w wl : Nat} {H0 : List EC} {kn : Nat × Nat}
-- LinkHarbour.fault
noncomputable def D_X11_fault (s : Sg) (a1 : Int32) (a2 : Int32) : Int32 := (if a1 < 0 then 0 else (if a1 < (D_X0_count 38 s) then (if a2 < 0 then 0 else (if a2 < 4 then (D_X0_part 38 s a1 a2) else 0)) else 0))
noncomputable def T_X11_fault (s : Sg) (a1 : Int32) (a2 : Int32) : Bool := (if a1 < 0 then false else (if a1 < (D_X0_count 38 s) then (if a2 < 0 then false else (if a2 < 4 then true else false)) else false))
theorem m_X11_fault (hP : WOK b w H0) {s : Sg} {a1 : Int32} {a2 : Int32} (hT : T_X11_fault s a1 a2 = true) : Rx sc g_X11_fault 2 ((0, [(0, .ref b), (1, .int a1), (2, .int a2)], [])) (wd b w wl H0 s, kn) (some (.int (D_X11_fault s a1 a2))) (wd b w wl H0 s, kn) := by
  show Rx sc g_X11_fault 2 (0, [(0, .ref b), (1, .int a1), (2, .int a2)], []) (wd b w wl H0 s, kn) (some (.int (D_X11_fault s a1 a2))) (wd b w wl H0 s, kn)
  refine rx_k 1 (1, [(0, .ref b), (1, .int a1), (2, .int a2)], [.int a1]) (fun _ _ => rfl) ?_
  by_cases c0 : a1 < 0
  · refine rx_ifT rfl (bt c0) ?_
    rw [(show T_X11_fault s a1 a2 = false from ((if_pos c0).trans rfl))] at hT
    cases hT
  · refine rx_ifF rfl (bf c0) rfl ?_
    refine rx_k 2 (6, [(0, .ref b), (1, .int a1), (2, .int a2)], [.ref b, .int a1]) (fun _ _ => rfl) ?_
    refine rx_getf rfl rfl (wg_0 hP) rfl ?_
    refine rx_getf rfl rfl (wl_0 hP (Or.inl rfl)) rfl ?_
    refine rx_inv rfl rfl (rc_X0_count hP (Or.inl rfl)) rfl rfl rfl (q_recv (wl_1 hP (Or.inl rfl))) rfl rfl ?_
    by_cases c1 : a1 < (D_X0_count 38 s)
    · refine rx_icT rfl (bt c1) ?_
      refine rx_k 1 (30, [(0, .ref b), (1, .int a1), (2, .int a2)], [.int a2]) (fun _ _ => rfl) ?_
      by_cases c2 : a2 < 0
      · refine rx_ifT rfl (bt c2) ?_
        rw [(show T_X11_fault s a1 a2 = false from ((if_neg c0).trans ((if_pos c1).trans ((if_pos c2).trans rfl))))] at hT
        cases hT
      · refine rx_ifF rfl (bf c2) rfl ?_
        refine rx_k 2 (35, [(0, .ref b), (1, .int a1), (2, .int a2)], [.int 4, .int a2]) (fun _ _ => rfl) ?_
        by_cases c3 : a2 < 4
        · refine rx_icT rfl (bt c3) ?_
          refine rx_k 1 (49, [(0, .ref b), (1, .int a1), (2, .int a2)], [.ref b]) (fun _ _ => rfl) ?_
          refine rx_getf rfl rfl (wg_0 hP) rfl ?_
          refine rx_getf rfl rfl (wl_0 hP (Or.inl rfl)) rfl ?_
          refine rx_k 2 (57, [(0, .ref b), (1, .int a1), (2, .int a2)], [.int a2, .int a1, .ref (b + (38 + 1))]) (fun _ _ => rfl) ?_
          refine rx_inv rfl rfl (rc_X0_part hP (Or.inl rfl)) rfl rfl rfl (q_recv (wl_1 hP (Or.inl rfl))) rfl rfl ?_
          rw [(show (D_X11_fault s a1 a2) = (D_X0_part 38 s a1 a2) from ((if_neg c0).trans ((if_pos c1).trans ((if_neg c2).trans ((if_pos c3).trans rfl)))))]
          exact rx_ri rfl
        · refine rx_icF rfl (bf c3) rfl ?_
          rw [(show T_X11_fault s a1 a2 = false from ((if_neg c0).trans ((if_pos c1).trans ((if_neg c2).trans ((if_neg c3).trans rfl)))))] at hT
          cases hT
    · refine rx_icF rfl (bf c1) rfl ?_
      rw [(show T_X11_fault s a1 a2 = false from ((if_neg c0).trans ((if_neg c1).trans rfl)))] at hT
      cases hT
theorem rc_X11_fault (hP : WOK b w H0) {s : Sg} {a1 : Int32} {a2 : Int32} (hT : T_X11_fault s a1 a2 = true) : Rc sc 3 173 [.ref b, .int a1, .int a2] (wd b w wl H0 s, kn) (some (.int (D_X11_fault s a1 a2))) (wd b w wl H0 s, kn) := rx_mc (m_X11_fault hP hT) rfl rfl (Nat.ble_eq_true_of_le (Nat.le_refl _)) (Nat.ble_eq_true_of_le (Nat.le_refl _))
theorem tq_fault {s : Sg} {a c : Int32} (h1 : 0 ≤ a.toInt) (h2 : ¬ D_X0_count 38 s ≤ a) (h : rg c 4) : T_X11_fault s a c = true := by
  unfold T_X11_fault
  rw [if_neg (n_lt h1), if_pos (Int32.not_le.mp h2), if_neg (n_lt h.1), if_pos (Int32.not_le.mp (n_le (m := 4) (n := 4) h.2 rfl))]
-- LinkHarbour.wordAt
noncomputable def D_X11_wordAt (wl : Nat) (s : Sg) (a1 : Int32) : Int32 := (if a1 < 0 then 0 else (if a1 < (D_X3_size 38 s) then (D_X1_read wl s a1) else 0))
noncomputable def T_X11_wordAt (wl : Nat) (s : Sg) (a1 : Int32) : Bool := (if a1 < 0 then false else (if a1 < (D_X3_size 38 s) then true else false))
theorem m_X11_wordAt (hP : WOK b w H0) (hW : wl < 2000000) {s : Sg} {a1 : Int32} (hT : T_X11_wordAt wl s a1 = true) : Rx sc g_X11_wordAt 1 ((0, [(0, .ref b), (1, .int a1)], [])) (wd b w wl H0 s, kn) (some (.int (D_X11_wordAt wl s a1))) (wd b w wl H0 s, kn) := by
  show Rx sc g_X11_wordAt 1 (0, [(0, .ref b), (1, .int a1)], []) (wd b w wl H0 s, kn) (some (.int (D_X11_wordAt wl s a1))) (wd b w wl H0 s, kn)
  refine rx_k 1 (1, [(0, .ref b), (1, .int a1)], [.int a1]) (fun _ _ => rfl) ?_
  by_cases c0 : a1 < 0
  · refine rx_ifT rfl (bt c0) ?_
    rw [(show T_X11_wordAt wl s a1 = false from ((if_pos c0).trans rfl))] at hT
    cases hT
  · refine rx_ifF rfl (bf c0) rfl ?_
    refine rx_k 2 (6, [(0, .ref b), (1, .int a1)], [.ref b, .int a1]) (fun _ _ => rfl) ?_
    refine rx_getf rfl rfl (wg_0 hP) rfl ?_
    refine rx_getf rfl rfl (wl_0 hP (Or.inl rfl)) rfl ?_
    refine rx_inv rfl rfl (rc_X3_size hP (Or.inl rfl)) rfl rfl rfl (q_recv (wl_15 hP (Or.inl rfl))) rfl rfl ?_
    by_cases c1 : a1 < (D_X3_size 38 s)
    · refine rx_icT rfl (bt c1) ?_
      refine rx_k 1 (30, [(0, .ref b), (1, .int a1)], [.ref b]) (fun _ _ => rfl) ?_
      refine rx_getf rfl rfl (wg_0 hP) rfl ?_
      refine rx_k 1 (34, [(0, .ref b), (1, .int a1)], [.int a1, .ref (b + 36)]) (fun _ _ => rfl) ?_
      refine rx_inv rfl rfl (rc_X1_read hP hW) rfl rfl rfl (q_recv (wg_36 hP)) rfl rfl ?_
      rw [(show (D_X11_wordAt wl s a1) = (D_X1_read wl s a1) from ((if_neg c0).trans ((if_pos c1).trans rfl)))]
      exact rx_ri rfl
    · refine rx_icF rfl (bf c1) rfl ?_
      rw [(show T_X11_wordAt wl s a1 = false from ((if_neg c0).trans ((if_neg c1).trans rfl)))] at hT
      cases hT
theorem rc_X11_wordAt (hP : WOK b w H0) (hW : wl < 2000000) {s : Sg} {a1 : Int32} (hT : T_X11_wordAt wl s a1 = true) : Rc sc 2 174 [.ref b, .int a1] (wd b w wl H0 s, kn) (some (.int (D_X11_wordAt wl s a1))) (wd b w wl H0 s, kn) := rx_mc (m_X11_wordAt hP hW hT) rfl rfl (Nat.ble_eq_true_of_le (Nat.le_refl _)) (Nat.ble_eq_true_of_le (Nat.le_refl _))
theorem tq_wordAt {wl : Nat} {s : Sg} {a : Int32} (h1 : 0 ≤ a.toInt) (h2 : ¬ D_X3_size 38 s ≤ a) : T_X11_wordAt wl s a = true := by
  unfold T_X11_wordAt
  rw [if_neg (n_lt h1), if_pos (Int32.not_le.mp h2)]
-- LinkHarbour.publish
noncomputable def D_X11_publish (s : Sg) (a1 : Int32) : Int32 × Sg := (if a1 < 0 then (0, s) else (if 64 ≤ a1 then (0, s) else (if (D_X11_hasBit a1 (D_X4_count s)) = 0 then (if (D_X4_isFull s) = 0 then (if (D_X5_isDone 38 s) = 0 then (0, s) else (if (D_X5_isShared 38 s) = 0 then (0, s) else (if (D_X0_count 38 s) ≤ 0 then ((D_X4_add s a1).1, (D_X4_add s a1).2) else (0, s)))) else (0, s)) else (0, s))))
noncomputable def T_X11_publish (s : Sg) (a1 : Int32) : Bool := (if a1 < 0 then false else (if 64 ≤ a1 then false else (if (D_X11_hasBit a1 (D_X4_count s)) = 0 then (if (D_X4_isFull s) = 0 then (if (D_X5_isDone 38 s) = 0 then false else (if (D_X5_isShared 38 s) = 0 then false else (if (D_X0_count 38 s) ≤ 0 then true else false))) else false) else false)))
theorem m_X11_publish (hP : WOK b w H0) {s : Sg} {a1 : Int32} (hN : NN s) (hT : T_X11_publish s a1 = true) : Rx sc g_X11_publish 3 ((0, [(0, .ref b), (1, .int a1)], [])) (wd b w wl H0 s, kn) (some (.int (D_X11_publish s a1).1)) (wd b w wl H0 (D_X11_publish s a1).2, kn) := by
  show Rx sc g_X11_publish 3 (0, [(0, .ref b), (1, .int a1)], []) (wd b w wl H0 s, kn) (some (.int (D_X11_publish s a1).1)) (wd b w wl H0 (D_X11_publish s a1).2, kn)
  refine rx_k 1 (1, [(0, .ref b), (1, .int a1)], [.int a1]) (fun _ _ => rfl) ?_
  by_cases c0 : a1 < 0
  · refine rx_ifT rfl (bt c0) ?_
    rw [(show T_X11_publish s a1 = false from ((if_pos c0).trans rfl))] at hT
    cases hT
  · refine rx_ifF rfl (bf c0) rfl ?_
    refine rx_k 2 (7, [(0, .ref b), (1, .int a1)], [.int 64, .int a1]) (fun _ _ => rfl) ?_
    by_cases c1 : 64 ≤ a1
    · refine rx_icT rfl (bt c1) ?_
      rw [(show T_X11_publish s a1 = false from ((if_neg c0).trans ((if_pos c1).trans rfl)))] at hT
      cases hT
    · refine rx_icF rfl (bf c1) rfl ?_
      refine rx_k 2 (12, [(0, .ref b), (1, .int a1)], [.ref b, .int a1]) (fun _ _ => rfl) ?_
      refine rx_getf rfl rfl (wg_0 hP) rfl ?_
      refine rx_inv rfl rfl (rc_X4_count hP) rfl rfl rfl (q_recv (wg_23 hP)) rfl rfl ?_
      refine rx_inv rfl rfl (rc_X11_hasBit) rfl rfl rfl rfl rfl rfl ?_
      by_cases c2 : (D_X11_hasBit a1 (D_X4_count s)) = 0
      · refine rx_ifT rfl (bt c2) ?_
        refine rx_k 1 (36, [(0, .ref b), (1, .int a1)], [.ref b]) (fun _ _ => rfl) ?_
        refine rx_getf rfl rfl (wg_0 hP) rfl ?_
        refine rx_inv rfl rfl (rc_X4_isFull hP) rfl rfl rfl (q_recv (wg_23 hP)) rfl rfl ?_
        by_cases c3 : (D_X4_isFull s) = 0
        · refine rx_ifF rfl (nf c3) rfl ?_
          refine rx_k 1 (46, [(0, .ref b), (1, .int a1)], [.ref b]) (fun _ _ => rfl) ?_
          refine rx_getf rfl rfl (wg_0 hP) rfl ?_
          refine rx_inv rfl rfl (rc_X5_isDone hP (Or.inl rfl)) rfl rfl rfl (q_recv (wl_0 hP (Or.inl rfl))) rfl rfl ?_
          by_cases c4 : (D_X5_isDone 38 s) = 0
          · refine rx_ifT rfl (bt c4) ?_
            rw [(show T_X11_publish s a1 = false from ((if_neg c0).trans ((if_neg c1).trans ((if_pos c2).trans ((if_pos c3).trans ((if_pos c4).trans rfl))))))] at hT
            cases hT
          · refine rx_ifF rfl (bf c4) rfl ?_
            refine rx_k 1 (56, [(0, .ref b), (1, .int a1)], [.ref b]) (fun _ _ => rfl) ?_
            refine rx_getf rfl rfl (wg_0 hP) rfl ?_
            refine rx_inv rfl rfl (rc_X5_isShared hP (Or.inl rfl)) rfl rfl rfl (q_recv (wl_0 hP (Or.inl rfl))) rfl rfl ?_
            by_cases c5 : (D_X5_isShared 38 s) = 0
            · refine rx_ifT rfl (bt c5) ?_
              rw [(show T_X11_publish s a1 = false from ((if_neg c0).trans ((if_neg c1).trans ((if_pos c2).trans ((if_pos c3).trans ((if_neg c4).trans ((if_pos c5).trans rfl)))))))] at hT
              cases hT
            · refine rx_ifF rfl (bf c5) rfl ?_
              refine rx_k 1 (66, [(0, .ref b), (1, .int a1)], [.ref b]) (fun _ _ => rfl) ?_
              refine rx_getf rfl rfl (wg_0 hP) rfl ?_
              refine rx_getf rfl rfl (wl_0 hP (Or.inl rfl)) rfl ?_
              refine rx_inv rfl rfl (rc_X0_count hP (Or.inl rfl)) rfl rfl rfl (q_recv (wl_1 hP (Or.inl rfl))) rfl rfl ?_
              by_cases c6 : (D_X0_count 38 s) ≤ 0
              · refine rx_ifT rfl (bt c6) ?_
                refine rx_k 1 (90, [(0, .ref b), (1, .int a1)], [.ref b]) (fun _ _ => rfl) ?_
                refine rx_getf rfl rfl (wg_0 hP) rfl ?_
                refine rx_k 1 (94, [(0, .ref b), (1, .int a1)], [.ref b, .ref (b + 23)]) (fun _ _ => rfl) ?_
                refine rx_getf rfl rfl (wg_0 hP) rfl ?_
                refine rx_k 1 (98, [(0, .ref b), (1, .int a1)], [.int a1, .ref (b + 38), .ref (b + 23)]) (fun _ _ => rfl) ?_
                refine rx_inv rfl rfl (rc_X4_add hP hN) rfl rfl rfl (q_recv (wg_23 hP)) rfl rfl ?_
                rw [(show (D_X11_publish s a1) = ((D_X4_add s a1).1, (D_X4_add s a1).2) from ((if_neg c0).trans ((if_neg c1).trans ((if_pos c2).trans ((if_pos c3).trans ((if_neg c4).trans ((if_neg c5).trans ((if_pos c6).trans rfl))))))))]
                exact rx_ri rfl
              · refine rx_ifF rfl (bf c6) rfl ?_
                rw [(show T_X11_publish s a1 = false from ((if_neg c0).trans ((if_neg c1).trans ((if_pos c2).trans ((if_pos c3).trans ((if_neg c4).trans ((if_neg c5).trans ((if_neg c6).trans rfl))))))))] at hT
                cases hT
        · refine rx_ifT rfl (nt c3) ?_
          rw [(show T_X11_publish s a1 = false from ((if_neg c0).trans ((if_neg c1).trans ((if_pos c2).trans ((if_neg c3).trans rfl)))))] at hT
          cases hT
      · refine rx_ifF rfl (bf c2) rfl ?_
        rw [(show T_X11_publish s a1 = false from ((if_neg c0).trans ((if_neg c1).trans ((if_neg c2).trans rfl))))] at hT
        cases hT
theorem rc_X11_publish (hP : WOK b w H0) {s : Sg} {a1 : Int32} (hN : NN s) (hT : T_X11_publish s a1 = true) : Rc sc 4 175 [.ref b, .int a1] (wd b w wl H0 s, kn) (some (.int (D_X11_publish s a1).1)) (wd b w wl H0 (D_X11_publish s a1).2, kn) := rx_mc (m_X11_publish hP hN hT) rfl rfl (Nat.ble_eq_true_of_le (Nat.le_refl _)) (Nat.ble_eq_true_of_le (Nat.le_refl _))
theorem nn_X11_publish {s : Sg} {a1 : Int32} (hN : NN s) : NN (D_X11_publish s a1).2 := by
  by_cases c0 : a1 < 0
  · exact pair_of (P := fun zs => NN zs) (show (D_X11_publish s a1) = (0, s) from ((if_pos c0).trans rfl)) hN
  · by_cases c1 : 64 ≤ a1
    · exact pair_of (P := fun zs => NN zs) (show (D_X11_publish s a1) = (0, s) from ((if_neg c0).trans ((if_pos c1).trans rfl))) hN
    · by_cases c2 : (D_X11_hasBit a1 (D_X4_count s)) = 0
      · by_cases c3 : (D_X4_isFull s) = 0
        · by_cases c4 : (D_X5_isDone 38 s) = 0
          · exact pair_of (P := fun zs => NN zs) (show (D_X11_publish s a1) = (0, s) from ((if_neg c0).trans ((if_neg c1).trans ((if_pos c2).trans ((if_pos c3).trans ((if_pos c4).trans rfl)))))) hN
          · by_cases c5 : (D_X5_isShared 38 s) = 0
            · exact pair_of (P := fun zs => NN zs) (show (D_X11_publish s a1) = (0, s) from ((if_neg c0).trans ((if_neg c1).trans ((if_pos c2).trans ((if_pos c3).trans ((if_neg c4).trans ((if_pos c5).trans rfl))))))) hN
            · by_cases c6 : (D_X0_count 38 s) ≤ 0
              · exact pair_of (P := fun zs => NN zs) (show (D_X11_publish s a1) = ((D_X4_add s a1).1, (D_X4_add s a1).2) from ((if_neg c0).trans ((if_neg c1).trans ((if_pos c2).trans ((if_pos c3).trans ((if_neg c4).trans ((if_neg c5).trans ((if_pos c6).trans rfl)))))))) (nn_X4_add hN)
              · exact pair_of (P := fun zs => NN zs) (show (D_X11_publish s a1) = (0, s) from ((if_neg c0).trans ((if_neg c1).trans ((if_pos c2).trans ((if_pos c3).trans ((if_neg c4).trans ((if_neg c5).trans ((if_neg c6).trans rfl)))))))) hN
        · exact pair_of (P := fun zs => NN zs) (show (D_X11_publish s a1) = (0, s) from ((if_neg c0).trans ((if_neg c1).trans ((if_pos c2).trans ((if_neg c3).trans rfl))))) hN
      · exact pair_of (P := fun zs => NN zs) (show (D_X11_publish s a1) = (0, s) from ((if_neg c0).trans ((if_neg c1).trans ((if_neg c2).trans rfl)))) hN
theorem fw_X11_publish {s : Sg} {a1 : Int32} {k j : Nat} (h23f13 : k ≠ 23 ∨ j ≠ 13) (h24 : k ≠ 24) (h25 : k ≠ 25) (h26 : k ≠ 26) (h27 : k ≠ 27) (h28 : k ≠ 28) : (D_X11_publish s a1).2 k j = s k j := by
  by_cases c0 : a1 < 0
  · exact pair_of (P := fun zs => zs k j = s k j) (show (D_X11_publish s a1) = (0, s) from ((if_pos c0).trans rfl)) rfl
  · by_cases c1 : 64 ≤ a1
    · exact pair_of (P := fun zs => zs k j = s k j) (show (D_X11_publish s a1) = (0, s) from ((if_neg c0).trans ((if_pos c1).trans rfl))) rfl
    · by_cases c2 : (D_X11_hasBit a1 (D_X4_count s)) = 0
      · by_cases c3 : (D_X4_isFull s) = 0
        · by_cases c4 : (D_X5_isDone 38 s) = 0
          · exact pair_of (P := fun zs => zs k j = s k j) (show (D_X11_publish s a1) = (0, s) from ((if_neg c0).trans ((if_neg c1).trans ((if_pos c2).trans ((if_pos c3).trans ((if_pos c4).trans rfl)))))) rfl
          · by_cases c5 : (D_X5_isShared 38 s) = 0
            · exact pair_of (P := fun zs => zs k j = s k j) (show (D_X11_publish s a1) = (0, s) from ((if_neg c0).trans ((if_neg c1).trans ((if_pos c2).trans ((if_pos c3).trans ((if_neg c4).trans ((if_pos c5).trans rfl))))))) rfl
            · by_cases c6 : (D_X0_count 38 s) ≤ 0
              · exact pair_of (P := fun zs => zs k j = s k j) (show (D_X11_publish s a1) = ((D_X4_add s a1).1, (D_X4_add s a1).2) from ((if_neg c0).trans ((if_neg c1).trans ((if_pos c2).trans ((if_pos c3).trans ((if_neg c4).trans ((if_neg c5).trans ((if_pos c6).trans rfl)))))))) ((fw_X4_add h23f13 h24 h25 h26 h27 h28).trans rfl)
              · exact pair_of (P := fun zs => zs k j = s k j) (show (D_X11_publish s a1) = (0, s) from ((if_neg c0).trans ((if_neg c1).trans ((if_pos c2).trans ((if_pos c3).trans ((if_neg c4).trans ((if_neg c5).trans ((if_neg c6).trans rfl)))))))) rfl
        · exact pair_of (P := fun zs => zs k j = s k j) (show (D_X11_publish s a1) = (0, s) from ((if_neg c0).trans ((if_neg c1).trans ((if_pos c2).trans ((if_neg c3).trans rfl))))) rfl
      · exact pair_of (P := fun zs => zs k j = s k j) (show (D_X11_publish s a1) = (0, s) from ((if_neg c0).trans ((if_neg c1).trans ((if_neg c2).trans rfl)))) rfl
-- LinkHarbour.open
noncomputable def D_X11_open (s : Sg) (a1 : Int32) (a2 : Int32) : Int32 × Sg := (if (D_X4_has s a1) = 0 then (0, s) else ((D_X4_openOne s a1 a2).1, (D_X4_openOne s a1 a2).2))
noncomputable def T_X11_open (s : Sg) (a1 : Int32) (a2 : Int32) : Bool := (if (D_X4_has s a1) = 0 then false else true)
theorem m_X11_open (hP : WOK b w H0) {s : Sg} {a1 : Int32} {a2 : Int32} (hN : NN s) (za2 : bz a2 = true) (hT : T_X11_open s a1 a2 = true) : Rx sc g_X11_open 5 ((0, [(0, .ref b), (1, .int a1), (2, .int a2)], [])) (wd b w wl H0 s, kn) (some (.int (D_X11_open s a1 a2).1)) (wd b w wl H0 (D_X11_open s a1 a2).2, kn) := by
  show Rx sc g_X11_open 5 (0, [(0, .ref b), (1, .int a1), (2, .int a2)], []) (wd b w wl H0 s, kn) (some (.int (D_X11_open s a1 a2).1)) (wd b w wl H0 (D_X11_open s a1 a2).2, kn)
  refine rx_k 1 (1, [(0, .ref b), (1, .int a1), (2, .int a2)], [.ref b]) (fun _ _ => rfl) ?_
  refine rx_getf rfl rfl (wg_0 hP) rfl ?_
  refine rx_k 1 (5, [(0, .ref b), (1, .int a1), (2, .int a2)], [.int a1, .ref (b + 23)]) (fun _ _ => rfl) ?_
  refine rx_inv rfl rfl (rc_X4_has hP) rfl rfl rfl (q_recv (wg_23 hP)) rfl rfl ?_
  by_cases c0 : (D_X4_has s a1) = 0
  · refine rx_ifF rfl (nf c0) rfl ?_
    rw [(show T_X11_open s a1 a2 = false from ((if_pos c0).trans rfl))] at hT
    cases hT
  · refine rx_ifT rfl (nt c0) ?_
    refine rx_k 1 (23, [(0, .ref b), (1, .int a1), (2, .int a2)], [.ref b]) (fun _ _ => rfl) ?_
    refine rx_getf rfl rfl (wg_0 hP) rfl ?_
    refine rx_k 2 (28, [(0, .ref b), (1, .int a1), (2, .int a2)], [.int a2, .int a1, .ref (b + 23)]) (fun _ _ => rfl) ?_
    refine rx_inv rfl rfl (rc_X4_openOne hP hN za2) rfl rfl rfl (q_recv (wg_23 hP)) rfl rfl ?_
    rw [(show (D_X11_open s a1 a2) = ((D_X4_openOne s a1 a2).1, (D_X4_openOne s a1 a2).2) from ((if_neg c0).trans rfl))]
    exact rx_ri rfl
theorem rc_X11_open (hP : WOK b w H0) {s : Sg} {a1 : Int32} {a2 : Int32} (hN : NN s) (za2 : bz a2 = true) (hT : T_X11_open s a1 a2 = true) : Rc sc 6 176 [.ref b, .int a1, .int a2] (wd b w wl H0 s, kn) (some (.int (D_X11_open s a1 a2).1)) (wd b w wl H0 (D_X11_open s a1 a2).2, kn) := rx_mc (m_X11_open hP hN za2 hT) rfl rfl (Nat.ble_eq_true_of_le (Nat.le_refl _)) (Nat.ble_eq_true_of_le (Nat.le_refl _))
theorem nn_X11_open {s : Sg} {a1 : Int32} {a2 : Int32} (hN : NN s) : NN (D_X11_open s a1 a2).2 := by
  by_cases c0 : (D_X4_has s a1) = 0
  · exact pair_of (P := fun zs => NN zs) (show (D_X11_open s a1 a2) = (0, s) from ((if_pos c0).trans rfl)) hN
  · exact pair_of (P := fun zs => NN zs) (show (D_X11_open s a1 a2) = ((D_X4_openOne s a1 a2).1, (D_X4_openOne s a1 a2).2) from ((if_neg c0).trans rfl)) (nn_X4_openOne hN)
theorem fw_X11_open {s : Sg} {a1 : Int32} {a2 : Int32} {k j : Nat} (h23f12 : k ≠ 23 ∨ j ≠ 12) (h23f14 : k ≠ 23 ∨ j ≠ 14) (h23f15 : k ≠ 23 ∨ j ≠ 15) (h29 : k ≠ 29) (h30 : k ≠ 30) (h32 : k ≠ 32) (h33 : k ≠ 33) (h34 : k ≠ 34) (h35 : k ≠ 35) : (D_X11_open s a1 a2).2 k j = s k j := by
  by_cases c0 : (D_X4_has s a1) = 0
  · exact pair_of (P := fun zs => zs k j = s k j) (show (D_X11_open s a1 a2) = (0, s) from ((if_pos c0).trans rfl)) rfl
  · exact pair_of (P := fun zs => zs k j = s k j) (show (D_X11_open s a1 a2) = ((D_X4_openOne s a1 a2).1, (D_X4_openOne s a1 a2).2) from ((if_neg c0).trans rfl)) ((fw_X4_openOne h23f12 h23f14 h23f15 h29 h30 h32 h33 h34 h35).trans rfl)
-- LinkHarbour.close
noncomputable def D_X11_close (s : Sg) (a1 : Int32) : Int32 × Sg := (if (D_X4_has s a1) = 0 then (0, s) else (if (D_X4_opened s a1) = 0 then (0, s) else ((D_X4_closeOne s a1).1, (D_X4_closeOne s a1).2)))
noncomputable def T_X11_close (s : Sg) (a1 : Int32) : Bool := (if (D_X4_has s a1) = 0 then false else (if (D_X4_opened s a1) = 0 then false else true))
theorem m_X11_close (hP : WOK b w H0) {s : Sg} {a1 : Int32} (hN : NN s) (hT : T_X11_close s a1 = true) : Rx sc g_X11_close 6 ((0, [(0, .ref b), (1, .int a1)], [])) (wd b w wl H0 s, kn) (some (.int (D_X11_close s a1).1)) (wd b w wl H0 (D_X11_close s a1).2, kn) := by
  show Rx sc g_X11_close 6 (0, [(0, .ref b), (1, .int a1)], []) (wd b w wl H0 s, kn) (some (.int (D_X11_close s a1).1)) (wd b w wl H0 (D_X11_close s a1).2, kn)
  refine rx_k 1 (1, [(0, .ref b), (1, .int a1)], [.ref b]) (fun _ _ => rfl) ?_
  refine rx_getf rfl rfl (wg_0 hP) rfl ?_
  refine rx_k 1 (5, [(0, .ref b), (1, .int a1)], [.int a1, .ref (b + 23)]) (fun _ _ => rfl) ?_
  refine rx_inv rfl rfl (rc_X4_has hP) rfl rfl rfl (q_recv (wg_23 hP)) rfl rfl ?_
  by_cases c0 : (D_X4_has s a1) = 0
  · refine rx_ifF rfl (nf c0) rfl ?_
    rw [(show T_X11_close s a1 = false from ((if_pos c0).trans rfl))] at hT
    cases hT
  · refine rx_ifT rfl (nt c0) ?_
    refine rx_k 1 (23, [(0, .ref b), (1, .int a1)], [.ref b]) (fun _ _ => rfl) ?_
    refine rx_getf rfl rfl (wg_0 hP) rfl ?_
    refine rx_k 1 (27, [(0, .ref b), (1, .int a1)], [.int a1, .ref (b + 23)]) (fun _ _ => rfl) ?_
    refine rx_inv rfl rfl (rc_X4_opened hP) rfl rfl rfl (q_recv (wg_23 hP)) rfl rfl ?_
    by_cases c1 : (D_X4_opened s a1) = 0
    · refine rx_ifF rfl (nf c1) rfl ?_
      rw [(show T_X11_close s a1 = false from ((if_neg c0).trans ((if_pos c1).trans rfl)))] at hT
      cases hT
    · refine rx_ifT rfl (nt c1) ?_
      refine rx_k 1 (45, [(0, .ref b), (1, .int a1)], [.ref b]) (fun _ _ => rfl) ?_
      refine rx_getf rfl rfl (wg_0 hP) rfl ?_
      refine rx_k 1 (49, [(0, .ref b), (1, .int a1)], [.int a1, .ref (b + 23)]) (fun _ _ => rfl) ?_
      refine rx_inv rfl rfl (rc_X4_closeOne hP hN) rfl rfl rfl (q_recv (wg_23 hP)) rfl rfl ?_
      rw [(show (D_X11_close s a1) = ((D_X4_closeOne s a1).1, (D_X4_closeOne s a1).2) from ((if_neg c0).trans ((if_neg c1).trans rfl)))]
      exact rx_ri rfl
theorem rc_X11_close (hP : WOK b w H0) {s : Sg} {a1 : Int32} (hN : NN s) (hT : T_X11_close s a1 = true) : Rc sc 7 177 [.ref b, .int a1] (wd b w wl H0 s, kn) (some (.int (D_X11_close s a1).1)) (wd b w wl H0 (D_X11_close s a1).2, kn) := rx_mc (m_X11_close hP hN hT) rfl rfl (Nat.ble_eq_true_of_le (Nat.le_refl _)) (Nat.ble_eq_true_of_le (Nat.le_refl _))
theorem nn_X11_close {s : Sg} {a1 : Int32} (hN : NN s) : NN (D_X11_close s a1).2 := by
  by_cases c0 : (D_X4_has s a1) = 0
  · exact pair_of (P := fun zs => NN zs) (show (D_X11_close s a1) = (0, s) from ((if_pos c0).trans rfl)) hN
  · by_cases c1 : (D_X4_opened s a1) = 0
    · exact pair_of (P := fun zs => NN zs) (show (D_X11_close s a1) = (0, s) from ((if_neg c0).trans ((if_pos c1).trans rfl))) hN
    · exact pair_of (P := fun zs => NN zs) (show (D_X11_close s a1) = ((D_X4_closeOne s a1).1, (D_X4_closeOne s a1).2) from ((if_neg c0).trans ((if_neg c1).trans rfl))) (nn_X4_closeOne hN)
theorem fw_X11_close {s : Sg} {a1 : Int32} {k j : Nat} (h23f12 : k ≠ 23 ∨ j ≠ 12) (h23f14 : k ≠ 23 ∨ j ≠ 14) (h23f15 : k ≠ 23 ∨ j ≠ 15) (h29 : k ≠ 29) (h30 : k ≠ 30) (h31 : k ≠ 31) (h32 : k ≠ 32) (h33 : k ≠ 33) (h34 : k ≠ 34) : (D_X11_close s a1).2 k j = s k j := by
  by_cases c0 : (D_X4_has s a1) = 0
  · exact pair_of (P := fun zs => zs k j = s k j) (show (D_X11_close s a1) = (0, s) from ((if_pos c0).trans rfl)) rfl
  · by_cases c1 : (D_X4_opened s a1) = 0
    · exact pair_of (P := fun zs => zs k j = s k j) (show (D_X11_close s a1) = (0, s) from ((if_neg c0).trans ((if_pos c1).trans rfl))) rfl
    · exact pair_of (P := fun zs => zs k j = s k j) (show (D_X11_close s a1) = ((D_X4_closeOne s a1).1, (D_X4_closeOne s a1).2) from ((if_neg c0).trans ((if_neg c1).trans rfl))) ((fw_X4_closeOne h23f12 h23f14 h23f15 h29 h30 h31 h32 h33 h34).trans rfl)
-- LinkHarbour.ofBinding
noncomputable def D_X11_ofBinding (s : Sg) (a1 : Int32) (a2 : Int32) (a3 : Int32) : Int32 := (if (D_X4_has s a1) = 0 then 0 else (if (D_X11_isName a2) = 0 then 0 else (if a3 = 0 then (D_X4_exportAddress s a1 a2) else (if a3 = 1 then (if (D_X4_isImport s a1 a2) = 0 then 0 else 1) else (if a3 = 2 then (D_X4_boundTo s a1 a2) else (if a3 = 3 then (D_X4_boundAddress s a1 a2) else 0))))))
noncomputable def T_X11_ofBinding (s : Sg) (a1 : Int32) (a2 : Int32) (a3 : Int32) : Bool := (if (D_X4_has s a1) = 0 then false else (if (D_X11_isName a2) = 0 then false else (if a3 = 0 then true else (if a3 = 1 then (if (D_X4_isImport s a1 a2) = 0 then true else true) else (if a3 = 2 then true else (if a3 = 3 then true else false))))))
theorem m_X11_ofBinding (hP : WOK b w H0) {s : Sg} {a1 : Int32} {a2 : Int32} {a3 : Int32} (hT : T_X11_ofBinding s a1 a2 a3 = true) : Rx sc g_X11_ofBinding 5 ((0, [(0, .ref b), (1, .int a1), (2, .int a2), (3, .int a3)], [])) (wd b w wl H0 s, kn) (some (.int (D_X11_ofBinding s a1 a2 a3))) (wd b w wl H0 s, kn) := by
  show Rx sc g_X11_ofBinding 5 (0, [(0, .ref b), (1, .int a1), (2, .int a2), (3, .int a3)], []) (wd b w wl H0 s, kn) (some (.int (D_X11_ofBinding s a1 a2 a3))) (wd b w wl H0 s, kn)
  refine rx_k 1 (1, [(0, .ref b), (1, .int a1), (2, .int a2), (3, .int a3)], [.ref b]) (fun _ _ => rfl) ?_
  refine rx_getf rfl rfl (wg_0 hP) rfl ?_
  refine rx_k 1 (5, [(0, .ref b), (1, .int a1), (2, .int a2), (3, .int a3)], [.int a1, .ref (b + 23)]) (fun _ _ => rfl) ?_
  refine rx_inv rfl rfl (rc_X4_has hP) rfl rfl rfl (q_recv (wg_23 hP)) rfl rfl ?_
  by_cases c0 : (D_X4_has s a1) = 0
  · refine rx_ifF rfl (nf c0) rfl ?_
    rw [(show T_X11_ofBinding s a1 a2 a3 = false from ((if_pos c0).trans rfl))] at hT
    cases hT
  · refine rx_ifT rfl (nt c0) ?_
    refine rx_k 1 (23, [(0, .ref b), (1, .int a1), (2, .int a2), (3, .int a3)], [.int a2]) (fun _ _ => rfl) ?_
    refine rx_inv rfl rfl (rc_X11_isName) rfl rfl rfl rfl rfl rfl ?_
    by_cases c1 : (D_X11_isName a2) = 0
    · refine rx_ifF rfl (nf c1) rfl ?_
      rw [(show T_X11_ofBinding s a1 a2 a3 = false from ((if_neg c0).trans ((if_pos c1).trans rfl)))] at hT
      cases hT
    · refine rx_ifT rfl (nt c1) ?_
      refine rx_k 1 (40, [(0, .ref b), (1, .int a1), (2, .int a2), (3, .int a3)], [.int a3]) (fun _ _ => rfl) ?_
      by_cases c2 : a3 = 0
      · refine rx_tsw rfl (by rw [c2]; decide) (by rw [c2]; first | done | rfl) ?_
        refine rx_k 1 (73, [(0, .ref b), (1, .int a1), (2, .int a2), (3, .int a3)], [.ref b]) (fun _ _ => rfl) ?_
        refine rx_getf rfl rfl (wg_0 hP) rfl ?_
        refine rx_k 2 (78, [(0, .ref b), (1, .int a1), (2, .int a2), (3, .int a3)], [.int a2, .int a1, .ref (b + 23)]) (fun _ _ => rfl) ?_
        refine rx_inv rfl rfl (rc_X4_exportAddress hP) rfl rfl rfl (q_recv (wg_23 hP)) rfl rfl ?_
        rw [(show (D_X11_ofBinding s a1 a2 a3) = (D_X4_exportAddress s a1 a2) from ((if_neg c0).trans ((if_neg c1).trans ((if_pos c2).trans rfl))))]
        exact rx_ri rfl
      · by_cases c3 : a3 = 1
        · refine rx_tsw rfl (by rw [c3]; decide) (by rw [c3]; first | done | rfl) ?_
          refine rx_k 1 (83, [(0, .ref b), (1, .int a1), (2, .int a2), (3, .int a3)], [.ref b]) (fun _ _ => rfl) ?_
          refine rx_getf rfl rfl (wg_0 hP) rfl ?_
          refine rx_k 2 (88, [(0, .ref b), (1, .int a1), (2, .int a2), (3, .int a3)], [.int a2, .int a1, .ref (b + 23)]) (fun _ _ => rfl) ?_
          refine rx_inv rfl rfl (rc_X4_isImport hP) rfl rfl rfl (q_recv (wg_23 hP)) rfl rfl ?_
          by_cases c4 : (D_X4_isImport s a1 a2) = 0
          · refine rx_ifT rfl (bt c4) ?_
            refine rx_k 1 (99, [(0, .ref b), (1, .int a1), (2, .int a2), (3, .int a3)], [.int 0]) (fun _ _ => rfl) ?_
            rw [(show (D_X11_ofBinding s a1 a2 a3) = 0 from ((if_neg c0).trans ((if_neg c1).trans ((if_neg c2).trans ((if_pos c3).trans ((if_pos c4).trans rfl))))))]
            exact rx_ri rfl
          · refine rx_ifF rfl (bf c4) rfl ?_
            refine rx_k 2 (99, [(0, .ref b), (1, .int a1), (2, .int a2), (3, .int a3)], [.int 1]) (fun _ _ => rfl) ?_
            rw [(show (D_X11_ofBinding s a1 a2 a3) = 1 from ((if_neg c0).trans ((if_neg c1).trans ((if_neg c2).trans ((if_pos c3).trans ((if_neg c4).trans rfl))))))]
            exact rx_ri rfl
        · by_cases c5 : a3 = 2
          · refine rx_tsw rfl (by rw [c5]; decide) (by rw [c5]; first | done | rfl) ?_
            refine rx_k 1 (101, [(0, .ref b), (1, .int a1), (2, .int a2), (3, .int a3)], [.ref b]) (fun _ _ => rfl) ?_
            refine rx_getf rfl rfl (wg_0 hP) rfl ?_
            refine rx_k 2 (106, [(0, .ref b), (1, .int a1), (2, .int a2), (3, .int a3)], [.int a2, .int a1, .ref (b + 23)]) (fun _ _ => rfl) ?_
            refine rx_inv rfl rfl (rc_X4_boundTo hP) rfl rfl rfl (q_recv (wg_23 hP)) rfl rfl ?_
            rw [(show (D_X11_ofBinding s a1 a2 a3) = (D_X4_boundTo s a1 a2) from ((if_neg c0).trans ((if_neg c1).trans ((if_neg c2).trans ((if_neg c3).trans ((if_pos c5).trans rfl))))))]
            exact rx_ri rfl
          · by_cases c6 : a3 = 3
            · refine rx_tsw rfl (by rw [c6]; decide) (by rw [c6]; first | done | rfl) ?_
              refine rx_k 1 (111, [(0, .ref b), (1, .int a1), (2, .int a2), (3, .int a3)], [.ref b]) (fun _ _ => rfl) ?_
              refine rx_getf rfl rfl (wg_0 hP) rfl ?_
              refine rx_k 2 (116, [(0, .ref b), (1, .int a1), (2, .int a2), (3, .int a3)], [.int a2, .int a1, .ref (b + 23)]) (fun _ _ => rfl) ?_
              refine rx_inv rfl rfl (rc_X4_boundAddress hP) rfl rfl rfl (q_recv (wg_23 hP)) rfl rfl ?_
              rw [(show (D_X11_ofBinding s a1 a2 a3) = (D_X4_boundAddress s a1 a2) from ((if_neg c0).trans ((if_neg c1).trans ((if_neg c2).trans ((if_neg c3).trans ((if_neg c5).trans ((if_pos c6).trans rfl)))))))]
              exact rx_ri rfl
            · rw [(show T_X11_ofBinding s a1 a2 a3 = false from ((if_neg c0).trans ((if_neg c1).trans ((if_neg c2).trans ((if_neg c3).trans ((if_neg c5).trans ((if_neg c6).trans rfl)))))))] at hT
              cases hT
theorem rc_X11_ofBinding (hP : WOK b w H0) {s : Sg} {a1 : Int32} {a2 : Int32} {a3 : Int32} (hT : T_X11_ofBinding s a1 a2 a3 = true) : Rc sc 6 178 [.ref b, .int a1, .int a2, .int a3] (wd b w wl H0 s, kn) (some (.int (D_X11_ofBinding s a1 a2 a3))) (wd b w wl H0 s, kn) := rx_mc (m_X11_ofBinding hP hT) rfl rfl (Nat.ble_eq_true_of_le (Nat.le_refl _)) (Nat.ble_eq_true_of_le (Nat.le_refl _))
theorem tq_ofBinding {s : Sg} {a c e : Int32} (h1 : ¬ D_X4_has s a = 0) (h2 : rg c 20) (h : rg e 4) : T_X11_ofBinding s a c e = true := by
  unfold T_X11_ofBinding
  rw [if_neg h1, if_neg (isName_rg h2), ite_self]
  obtain ⟨k, hk, rfl⟩ := q_small h
  match k, hk with
  | 0, _ => rfl
  | 1, _ => rfl
  | 2, _ => rfl
  | 3, _ => rfl
  | k + 4, h => exact absurd h (by omega)
-- LinkHarbour.ofLibrary
noncomputable def D_X11_ofLibrary (s : Sg) (a1 : Int32) (a2 : Int32) : Int32 := (if (D_X4_has s a1) = 0 then 0 else (if a2 = 0 then (D_X4_size s a1) else (if a2 = 1 then (D_J6_bitCount_0f7a4 (D_X4_exports s a1)) else (if a2 = 2 then (D_J6_bitCount_0f7a4 (D_X4_imports s a1)) else (if a2 = 3 then (D_X4_needs s a1) else (if a2 = 4 then (D_X4_opened s a1) else (if a2 = 5 then (D_X4_base s a1) else (if a2 = 6 then (D_X4_placeAmongGlobal s a1) else (if a2 = 7 then (D_X4_placeAmongInitialised s a1) else 0)))))))))
noncomputable def T_X11_ofLibrary (s : Sg) (a1 : Int32) (a2 : Int32) : Bool := (if (D_X4_has s a1) = 0 then false else (if a2 = 0 then true else (if a2 = 1 then true else (if a2 = 2 then true else (if a2 = 3 then true else (if a2 = 4 then true else (if a2 = 5 then true else (if a2 = 6 then true else (if a2 = 7 then true else false)))))))))
theorem m_X11_ofLibrary (hP : WOK b w H0) {s : Sg} {a1 : Int32} {a2 : Int32} (hN : NN s) (hT : T_X11_ofLibrary s a1 a2 = true) : Rx sc g_X11_ofLibrary 2 ((0, [(0, .ref b), (1, .int a1), (2, .int a2)], [])) (wd b w wl H0 s, kn) (some (.int (D_X11_ofLibrary s a1 a2))) (wd b w wl H0 s, kn) := by
  show Rx sc g_X11_ofLibrary 2 (0, [(0, .ref b), (1, .int a1), (2, .int a2)], []) (wd b w wl H0 s, kn) (some (.int (D_X11_ofLibrary s a1 a2))) (wd b w wl H0 s, kn)
  refine rx_k 1 (1, [(0, .ref b), (1, .int a1), (2, .int a2)], [.ref b]) (fun _ _ => rfl) ?_
  refine rx_getf rfl rfl (wg_0 hP) rfl ?_
  refine rx_k 1 (5, [(0, .ref b), (1, .int a1), (2, .int a2)], [.int a1, .ref (b + 23)]) (fun _ _ => rfl) ?_
  refine rx_inv rfl rfl (rc_X4_has hP) rfl rfl rfl (q_recv (wg_23 hP)) rfl rfl ?_
  by_cases c0 : (D_X4_has s a1) = 0
  · refine rx_ifF rfl (nf c0) rfl ?_
    rw [(show T_X11_ofLibrary s a1 a2 = false from ((if_pos c0).trans rfl))] at hT
    cases hT
  · refine rx_ifT rfl (nt c0) ?_
    refine rx_k 1 (23, [(0, .ref b), (1, .int a1), (2, .int a2)], [.int a2]) (fun _ _ => rfl) ?_
    by_cases c1 : a2 = 0
    · refine rx_tsw rfl (by rw [c1]; decide) (by rw [c1]; first | done | rfl) ?_
      refine rx_k 1 (69, [(0, .ref b), (1, .int a1), (2, .int a2)], [.ref b]) (fun _ _ => rfl) ?_
      refine rx_getf rfl rfl (wg_0 hP) rfl ?_
      refine rx_k 1 (73, [(0, .ref b), (1, .int a1), (2, .int a2)], [.int a1, .ref (b + 23)]) (fun _ _ => rfl) ?_
      refine rx_inv rfl rfl (rc_X4_size hP) rfl rfl rfl (q_recv (wg_23 hP)) rfl rfl ?_
      rw [(show (D_X11_ofLibrary s a1 a2) = (D_X4_size s a1) from ((if_neg c0).trans ((if_pos c1).trans rfl)))]
      exact rx_ri rfl
    · by_cases c2 : a2 = 1
      · refine rx_tsw rfl (by rw [c2]; decide) (by rw [c2]; first | done | rfl) ?_
        refine rx_k 1 (78, [(0, .ref b), (1, .int a1), (2, .int a2)], [.ref b]) (fun _ _ => rfl) ?_
        refine rx_getf rfl rfl (wg_0 hP) rfl ?_
        refine rx_k 1 (82, [(0, .ref b), (1, .int a1), (2, .int a2)], [.int a1, .ref (b + 23)]) (fun _ _ => rfl) ?_
        refine rx_inv rfl rfl (rc_X4_exports hP) rfl rfl rfl (q_recv (wg_23 hP)) rfl rfl ?_
        refine rx_inv rfl rfl (rc_J6_bitCount_0f7a4) rfl rfl rfl rfl rfl rfl ?_
        rw [(show (D_X11_ofLibrary s a1 a2) = (D_J6_bitCount_0f7a4 (D_X4_exports s a1)) from ((if_neg c0).trans ((if_neg c1).trans ((if_pos c2).trans rfl))))]
        exact rx_ri rfl
      · by_cases c3 : a2 = 2
        · refine rx_tsw rfl (by rw [c3]; decide) (by rw [c3]; first | done | rfl) ?_
          refine rx_k 1 (90, [(0, .ref b), (1, .int a1), (2, .int a2)], [.ref b]) (fun _ _ => rfl) ?_
          refine rx_getf rfl rfl (wg_0 hP) rfl ?_
          refine rx_k 1 (94, [(0, .ref b), (1, .int a1), (2, .int a2)], [.int a1, .ref (b + 23)]) (fun _ _ => rfl) ?_
          refine rx_inv rfl rfl (rc_X4_imports hP) rfl rfl rfl (q_recv (wg_23 hP)) rfl rfl ?_
          refine rx_inv rfl rfl (rc_J6_bitCount_0f7a4) rfl rfl rfl rfl rfl rfl ?_
          rw [(show (D_X11_ofLibrary s a1 a2) = (D_J6_bitCount_0f7a4 (D_X4_imports s a1)) from ((if_neg c0).trans ((if_neg c1).trans ((if_neg c2).trans ((if_pos c3).trans rfl)))))]
          exact rx_ri rfl
        · by_cases c4 : a2 = 3
          · refine rx_tsw rfl (by rw [c4]; decide) (by rw [c4]; first | done | rfl) ?_
            refine rx_k 1 (102, [(0, .ref b), (1, .int a1), (2, .int a2)], [.ref b]) (fun _ _ => rfl) ?_
            refine rx_getf rfl rfl (wg_0 hP) rfl ?_
            refine rx_k 1 (106, [(0, .ref b), (1, .int a1), (2, .int a2)], [.int a1, .ref (b + 23)]) (fun _ _ => rfl) ?_
            refine rx_inv rfl rfl (rc_X4_needs hP) rfl rfl rfl (q_recv (wg_23 hP)) rfl rfl ?_
            rw [(show (D_X11_ofLibrary s a1 a2) = (D_X4_needs s a1) from ((if_neg c0).trans ((if_neg c1).trans ((if_neg c2).trans ((if_neg c3).trans ((if_pos c4).trans rfl))))))]
            exact rx_ri rfl
          · by_cases c5 : a2 = 4
            · refine rx_tsw rfl (by rw [c5]; decide) (by rw [c5]; first | done | rfl) ?_
              refine rx_k 1 (111, [(0, .ref b), (1, .int a1), (2, .int a2)], [.ref b]) (fun _ _ => rfl) ?_
              refine rx_getf rfl rfl (wg_0 hP) rfl ?_
              refine rx_k 1 (115, [(0, .ref b), (1, .int a1), (2, .int a2)], [.int a1, .ref (b + 23)]) (fun _ _ => rfl) ?_
              refine rx_inv rfl rfl (rc_X4_opened hP) rfl rfl rfl (q_recv (wg_23 hP)) rfl rfl ?_
              rw [(show (D_X11_ofLibrary s a1 a2) = (D_X4_opened s a1) from ((if_neg c0).trans ((if_neg c1).trans ((if_neg c2).trans ((if_neg c3).trans ((if_neg c4).trans ((if_pos c5).trans rfl)))))))]
              exact rx_ri rfl
            · by_cases c6 : a2 = 5
              · refine rx_tsw rfl (by rw [c6]; decide) (by rw [c6]; first | done | rfl) ?_
                refine rx_k 1 (120, [(0, .ref b), (1, .int a1), (2, .int a2)], [.ref b]) (fun _ _ => rfl) ?_
                refine rx_getf rfl rfl (wg_0 hP) rfl ?_
                refine rx_k 1 (124, [(0, .ref b), (1, .int a1), (2, .int a2)], [.int a1, .ref (b + 23)]) (fun _ _ => rfl) ?_
                refine rx_inv rfl rfl (rc_X4_base hP) rfl rfl rfl (q_recv (wg_23 hP)) rfl rfl ?_
                rw [(show (D_X11_ofLibrary s a1 a2) = (D_X4_base s a1) from ((if_neg c0).trans ((if_neg c1).trans ((if_neg c2).trans ((if_neg c3).trans ((if_neg c4).trans ((if_neg c5).trans ((if_pos c6).trans rfl))))))))]
                exact rx_ri rfl
              · by_cases c7 : a2 = 6
                · refine rx_tsw rfl (by rw [c7]; decide) (by rw [c7]; first | done | rfl) ?_
                  refine rx_k 1 (129, [(0, .ref b), (1, .int a1), (2, .int a2)], [.ref b]) (fun _ _ => rfl) ?_
                  refine rx_getf rfl rfl (wg_0 hP) rfl ?_
                  refine rx_k 1 (133, [(0, .ref b), (1, .int a1), (2, .int a2)], [.int a1, .ref (b + 23)]) (fun _ _ => rfl) ?_
                  refine rx_inv rfl rfl (rc_X4_placeAmongGlobal hP hN) rfl rfl rfl (q_recv (wg_23 hP)) rfl rfl ?_
                  rw [(show (D_X11_ofLibrary s a1 a2) = (D_X4_placeAmongGlobal s a1) from ((if_neg c0).trans ((if_neg c1).trans ((if_neg c2).trans ((if_neg c3).trans ((if_neg c4).trans ((if_neg c5).trans ((if_neg c6).trans ((if_pos c7).trans rfl)))))))))]
                  exact rx_ri rfl
                · by_cases c8 : a2 = 7
                  · refine rx_tsw rfl (by rw [c8]; decide) (by rw [c8]; first | done | rfl) ?_
                    refine rx_k 1 (138, [(0, .ref b), (1, .int a1), (2, .int a2)], [.ref b]) (fun _ _ => rfl) ?_
                    refine rx_getf rfl rfl (wg_0 hP) rfl ?_
                    refine rx_k 1 (142, [(0, .ref b), (1, .int a1), (2, .int a2)], [.int a1, .ref (b + 23)]) (fun _ _ => rfl) ?_
                    refine rx_inv rfl rfl (rc_X4_placeAmongInitialised hP hN) rfl rfl rfl (q_recv (wg_23 hP)) rfl rfl ?_
                    rw [(show (D_X11_ofLibrary s a1 a2) = (D_X4_placeAmongInitialised s a1) from ((if_neg c0).trans ((if_neg c1).trans ((if_neg c2).trans ((if_neg c3).trans ((if_neg c4).trans ((if_neg c5).trans ((if_neg c6).trans ((if_neg c7).trans ((if_pos c8).trans rfl))))))))))]
                    exact rx_ri rfl
                  · rw [(show T_X11_ofLibrary s a1 a2 = false from ((if_neg c0).trans ((if_neg c1).trans ((if_neg c2).trans ((if_neg c3).trans ((if_neg c4).trans ((if_neg c5).trans ((if_neg c6).trans ((if_neg c7).trans ((if_neg c8).trans rfl))))))))))] at hT
                    cases hT
theorem rc_X11_ofLibrary (hP : WOK b w H0) {s : Sg} {a1 : Int32} {a2 : Int32} (hN : NN s) (hT : T_X11_ofLibrary s a1 a2 = true) : Rc sc 3 179 [.ref b, .int a1, .int a2] (wd b w wl H0 s, kn) (some (.int (D_X11_ofLibrary s a1 a2))) (wd b w wl H0 s, kn) := rx_mc (m_X11_ofLibrary hP hN hT) rfl rfl (Nat.ble_eq_true_of_le (Nat.le_refl _)) (Nat.ble_eq_true_of_le (Nat.le_refl _))
theorem tq_ofLibrary {s : Sg} {a c : Int32} (h1 : ¬ D_X4_has s a = 0) (h : rg c 8) : T_X11_ofLibrary s a c = true := by
  unfold T_X11_ofLibrary
  rw [if_neg h1]
  obtain ⟨k, hk, rfl⟩ := q_small h
  match k, hk with
  | 0, _ => rfl
  | 1, _ => rfl
  | 2, _ => rfl
  | 3, _ => rfl
  | 4, _ => rfl
  | 5, _ => rfl
  | 6, _ => rfl
  | 7, _ => rfl
  | k + 8, h => exact absurd h (by omega)
-- LinkHarbour.many
noncomputable def D_X11_many (s : Sg) (a1 : Int32) : Int32 := (if a1 = 0 then (D_X6_count s) else (if a1 = 1 then (D_X8_count s) else (if a1 = 2 then (D_X2_count s) else (if a1 = 3 then (D_X4_count s) else (if a1 = 4 then (D_X4_countLoaded s) else (if a1 = 5 then (D_X4_countGlobal s) else (if a1 = 6 then (D_X4_countBindings s) else (if a1 = 7 then (D_X10_count 38 s) else (if a1 = 8 then (D_X7_countSections 38 s) else (if a1 = 9 then (D_X3_size 38 s) else (if a1 = 10 then (D_X0_count 38 s) else (if a1 = 11 then (D_X3_countLongs 38 s) else (if a1 = 12 then (D_J6_bitCount_0f7a4 (D_X7_imports 38 s)) else 0)))))))))))))
noncomputable def T_X11_many (s : Sg) (a1 : Int32) : Bool := (if a1 = 0 then true else (if a1 = 1 then true else (if a1 = 2 then true else (if a1 = 3 then true else (if a1 = 4 then true else (if a1 = 5 then true else (if a1 = 6 then true else (if a1 = 7 then true else (if a1 = 8 then true else (if a1 = 9 then true else (if a1 = 10 then true else (if a1 = 11 then true else (if a1 = 12 then true else false)))))))))))))
theorem m_X11_many (hP : WOK b w H0) {s : Sg} {a1 : Int32} (hN : NN s) (hT : T_X11_many s a1 = true) : Rx sc g_X11_many 5 ((0, [(0, .ref b), (1, .int a1)], [])) (wd b w wl H0 s, kn) (some (.int (D_X11_many s a1))) (wd b w wl H0 s, kn) := by
  show Rx sc g_X11_many 5 (0, [(0, .ref b), (1, .int a1)], []) (wd b w wl H0 s, kn) (some (.int (D_X11_many s a1))) (wd b w wl H0 s, kn)
  refine rx_k 1 (1, [(0, .ref b), (1, .int a1)], [.int a1]) (fun _ _ => rfl) ?_
  by_cases c0 : a1 = 0
  · refine rx_tsw rfl (by rw [c0]; decide) (by rw [c0]; first | done | rfl) ?_
    refine rx_k 1 (69, [(0, .ref b), (1, .int a1)], [.ref b]) (fun _ _ => rfl) ?_
    refine rx_getf rfl rfl (wg_0 hP) rfl ?_
    refine rx_inv rfl rfl (rc_X6_count hP) rfl rfl rfl (q_recv (wg_1 hP)) rfl rfl ?_
    rw [(show (D_X11_many s a1) = (D_X6_count s) from ((if_pos c0).trans rfl))]
    exact rx_ri rfl
  · by_cases c1 : a1 = 1
    · refine rx_tsw rfl (by rw [c1]; decide) (by rw [c1]; first | done | rfl) ?_
      refine rx_k 1 (77, [(0, .ref b), (1, .int a1)], [.ref b]) (fun _ _ => rfl) ?_
      refine rx_getf rfl rfl (wg_0 hP) rfl ?_
      refine rx_inv rfl rfl (rc_X8_count hP) rfl rfl rfl (q_recv (wg_11 hP)) rfl rfl ?_
      rw [(show (D_X11_many s a1) = (D_X8_count s) from ((if_neg c0).trans ((if_pos c1).trans rfl)))]
      exact rx_ri rfl
    · by_cases c2 : a1 = 2
      · refine rx_tsw rfl (by rw [c2]; decide) (by rw [c2]; first | done | rfl) ?_
        refine rx_k 1 (85, [(0, .ref b), (1, .int a1)], [.ref b]) (fun _ _ => rfl) ?_
        refine rx_getf rfl rfl (wg_0 hP) rfl ?_
        refine rx_inv rfl rfl (rc_X2_count hP) rfl rfl rfl (q_recv (wg_20 hP)) rfl rfl ?_
        rw [(show (D_X11_many s a1) = (D_X2_count s) from ((if_neg c0).trans ((if_neg c1).trans ((if_pos c2).trans rfl))))]
        exact rx_ri rfl
      · by_cases c3 : a1 = 3
        · refine rx_tsw rfl (by rw [c3]; decide) (by rw [c3]; first | done | rfl) ?_
          refine rx_k 1 (93, [(0, .ref b), (1, .int a1)], [.ref b]) (fun _ _ => rfl) ?_
          refine rx_getf rfl rfl (wg_0 hP) rfl ?_
          refine rx_inv rfl rfl (rc_X4_count hP) rfl rfl rfl (q_recv (wg_23 hP)) rfl rfl ?_
          rw [(show (D_X11_many s a1) = (D_X4_count s) from ((if_neg c0).trans ((if_neg c1).trans ((if_neg c2).trans ((if_pos c3).trans rfl)))))]
          exact rx_ri rfl
        · by_cases c4 : a1 = 4
          · refine rx_tsw rfl (by rw [c4]; decide) (by rw [c4]; first | done | rfl) ?_
            refine rx_k 1 (101, [(0, .ref b), (1, .int a1)], [.ref b]) (fun _ _ => rfl) ?_
            refine rx_getf rfl rfl (wg_0 hP) rfl ?_
            refine rx_inv rfl rfl (rc_X4_countLoaded hP hN) rfl rfl rfl (q_recv (wg_23 hP)) rfl rfl ?_
            rw [(show (D_X11_many s a1) = (D_X4_countLoaded s) from ((if_neg c0).trans ((if_neg c1).trans ((if_neg c2).trans ((if_neg c3).trans ((if_pos c4).trans rfl))))))]
            exact rx_ri rfl
          · by_cases c5 : a1 = 5
            · refine rx_tsw rfl (by rw [c5]; decide) (by rw [c5]; first | done | rfl) ?_
              refine rx_k 1 (109, [(0, .ref b), (1, .int a1)], [.ref b]) (fun _ _ => rfl) ?_
              refine rx_getf rfl rfl (wg_0 hP) rfl ?_
              refine rx_inv rfl rfl (rc_X4_countGlobal hP) rfl rfl rfl (q_recv (wg_23 hP)) rfl rfl ?_
              rw [(show (D_X11_many s a1) = (D_X4_countGlobal s) from ((if_neg c0).trans ((if_neg c1).trans ((if_neg c2).trans ((if_neg c3).trans ((if_neg c4).trans ((if_pos c5).trans rfl)))))))]
              exact rx_ri rfl
            · by_cases c6 : a1 = 6
              · refine rx_tsw rfl (by rw [c6]; decide) (by rw [c6]; first | done | rfl) ?_
                refine rx_k 1 (117, [(0, .ref b), (1, .int a1)], [.ref b]) (fun _ _ => rfl) ?_
                refine rx_getf rfl rfl (wg_0 hP) rfl ?_
                refine rx_inv rfl rfl (rc_X4_countBindings hP hN) rfl rfl rfl (q_recv (wg_23 hP)) rfl rfl ?_
                rw [(show (D_X11_many s a1) = (D_X4_countBindings s) from ((if_neg c0).trans ((if_neg c1).trans ((if_neg c2).trans ((if_neg c3).trans ((if_neg c4).trans ((if_neg c5).trans ((if_pos c6).trans rfl))))))))]
                exact rx_ri rfl
              · by_cases c7 : a1 = 7
                · refine rx_tsw rfl (by rw [c7]; decide) (by rw [c7]; first | done | rfl) ?_
                  refine rx_k 1 (125, [(0, .ref b), (1, .int a1)], [.ref b]) (fun _ _ => rfl) ?_
                  refine rx_getf rfl rfl (wg_0 hP) rfl ?_
                  refine rx_getf rfl rfl (wl_0 hP (Or.inl rfl)) rfl ?_
                  refine rx_inv rfl rfl (rc_X10_count hP (Or.inl rfl)) rfl rfl rfl (q_recv (wl_3 hP (Or.inl rfl))) rfl rfl ?_
                  rw [(show (D_X11_many s a1) = (D_X10_count 38 s) from ((if_neg c0).trans ((if_neg c1).trans ((if_neg c2).trans ((if_neg c3).trans ((if_neg c4).trans ((if_neg c5).trans ((if_neg c6).trans ((if_pos c7).trans rfl)))))))))]
                  exact rx_ri rfl
                · by_cases c8 : a1 = 8
                  · refine rx_tsw rfl (by rw [c8]; decide) (by rw [c8]; first | done | rfl) ?_
                    refine rx_k 1 (136, [(0, .ref b), (1, .int a1)], [.ref b]) (fun _ _ => rfl) ?_
                    refine rx_getf rfl rfl (wg_0 hP) rfl ?_
                    refine rx_getf rfl rfl (wl_0 hP (Or.inl rfl)) rfl ?_
                    refine rx_inv rfl rfl (rc_X7_countSections hP (Or.inl rfl)) rfl rfl rfl (q_recv (wl_12 hP (Or.inl rfl))) rfl rfl ?_
                    rw [(show (D_X11_many s a1) = (D_X7_countSections 38 s) from ((if_neg c0).trans ((if_neg c1).trans ((if_neg c2).trans ((if_neg c3).trans ((if_neg c4).trans ((if_neg c5).trans ((if_neg c6).trans ((if_neg c7).trans ((if_pos c8).trans rfl))))))))))]
                    exact rx_ri rfl
                  · by_cases c9 : a1 = 9
                    · refine rx_tsw rfl (by rw [c9]; decide) (by rw [c9]; first | done | rfl) ?_
                      refine rx_k 1 (147, [(0, .ref b), (1, .int a1)], [.ref b]) (fun _ _ => rfl) ?_
                      refine rx_getf rfl rfl (wg_0 hP) rfl ?_
                      refine rx_getf rfl rfl (wl_0 hP (Or.inl rfl)) rfl ?_
                      refine rx_inv rfl rfl (rc_X3_size hP (Or.inl rfl)) rfl rfl rfl (q_recv (wl_15 hP (Or.inl rfl))) rfl rfl ?_
                      rw [(show (D_X11_many s a1) = (D_X3_size 38 s) from ((if_neg c0).trans ((if_neg c1).trans ((if_neg c2).trans ((if_neg c3).trans ((if_neg c4).trans ((if_neg c5).trans ((if_neg c6).trans ((if_neg c7).trans ((if_neg c8).trans ((if_pos c9).trans rfl)))))))))))]
                      exact rx_ri rfl
                    · by_cases c10 : a1 = 10
                      · refine rx_tsw rfl (by rw [c10]; decide) (by rw [c10]; first | done | rfl) ?_
                        refine rx_k 1 (158, [(0, .ref b), (1, .int a1)], [.ref b]) (fun _ _ => rfl) ?_
                        refine rx_getf rfl rfl (wg_0 hP) rfl ?_
                        refine rx_getf rfl rfl (wl_0 hP (Or.inl rfl)) rfl ?_
                        refine rx_inv rfl rfl (rc_X0_count hP (Or.inl rfl)) rfl rfl rfl (q_recv (wl_1 hP (Or.inl rfl))) rfl rfl ?_
                        rw [(show (D_X11_many s a1) = (D_X0_count 38 s) from ((if_neg c0).trans ((if_neg c1).trans ((if_neg c2).trans ((if_neg c3).trans ((if_neg c4).trans ((if_neg c5).trans ((if_neg c6).trans ((if_neg c7).trans ((if_neg c8).trans ((if_neg c9).trans ((if_pos c10).trans rfl))))))))))))]
                        exact rx_ri rfl
                      · by_cases c11 : a1 = 11
                        · refine rx_tsw rfl (by rw [c11]; decide) (by rw [c11]; first | done | rfl) ?_
                          refine rx_k 1 (169, [(0, .ref b), (1, .int a1)], [.ref b]) (fun _ _ => rfl) ?_
                          refine rx_getf rfl rfl (wg_0 hP) rfl ?_
                          refine rx_getf rfl rfl (wl_0 hP (Or.inl rfl)) rfl ?_
                          refine rx_inv rfl rfl (rc_X3_countLongs hP (Or.inl rfl) hN) rfl rfl rfl (q_recv (wl_15 hP (Or.inl rfl))) rfl rfl ?_
                          rw [(show (D_X11_many s a1) = (D_X3_countLongs 38 s) from ((if_neg c0).trans ((if_neg c1).trans ((if_neg c2).trans ((if_neg c3).trans ((if_neg c4).trans ((if_neg c5).trans ((if_neg c6).trans ((if_neg c7).trans ((if_neg c8).trans ((if_neg c9).trans ((if_neg c10).trans ((if_pos c11).trans rfl)))))))))))))]
                          exact rx_ri rfl
                        · by_cases c12 : a1 = 12
                          · refine rx_tsw rfl (by rw [c12]; decide) (by rw [c12]; first | done | rfl) ?_
                            refine rx_k 1 (180, [(0, .ref b), (1, .int a1)], [.ref b]) (fun _ _ => rfl) ?_
                            refine rx_getf rfl rfl (wg_0 hP) rfl ?_
                            refine rx_getf rfl rfl (wl_0 hP (Or.inl rfl)) rfl ?_
                            refine rx_inv rfl rfl (rc_X7_imports hP (Or.inl rfl)) rfl rfl rfl (q_recv (wl_12 hP (Or.inl rfl))) rfl rfl ?_
                            refine rx_inv rfl rfl (rc_J6_bitCount_0f7a4) rfl rfl rfl rfl rfl rfl ?_
                            rw [(show (D_X11_many s a1) = (D_J6_bitCount_0f7a4 (D_X7_imports 38 s)) from ((if_neg c0).trans ((if_neg c1).trans ((if_neg c2).trans ((if_neg c3).trans ((if_neg c4).trans ((if_neg c5).trans ((if_neg c6).trans ((if_neg c7).trans ((if_neg c8).trans ((if_neg c9).trans ((if_neg c10).trans ((if_neg c11).trans ((if_pos c12).trans rfl))))))))))))))]
                            exact rx_ri rfl
                          · rw [(show T_X11_many s a1 = false from ((if_neg c0).trans ((if_neg c1).trans ((if_neg c2).trans ((if_neg c3).trans ((if_neg c4).trans ((if_neg c5).trans ((if_neg c6).trans ((if_neg c7).trans ((if_neg c8).trans ((if_neg c9).trans ((if_neg c10).trans ((if_neg c11).trans ((if_neg c12).trans rfl))))))))))))))] at hT
                            cases hT
theorem rc_X11_many (hP : WOK b w H0) {s : Sg} {a1 : Int32} (hN : NN s) (hT : T_X11_many s a1 = true) : Rc sc 6 180 [.ref b, .int a1] (wd b w wl H0 s, kn) (some (.int (D_X11_many s a1))) (wd b w wl H0 s, kn) := rx_mc (m_X11_many hP hN hT) rfl rfl (Nat.ble_eq_true_of_le (Nat.le_refl _)) (Nat.ble_eq_true_of_le (Nat.le_refl _))
theorem tq_many {s : Sg} {a : Int32} (h : rg a 13) : T_X11_many s a = true := by
  obtain ⟨k, hk, rfl⟩ := q_small h
  match k, hk with
  | 0, _ => rfl
  | 1, _ => rfl
  | 2, _ => rfl
  | 3, _ => rfl
  | 4, _ => rfl
  | 5, _ => rfl
  | 6, _ => rfl
  | 7, _ => rfl
  | 8, _ => rfl
  | 9, _ => rfl
  | 10, _ => rfl
  | 11, _ => rfl
  | 12, _ => rfl
  | k + 13, h => exact absurd h (by omega)
-- LinkHarbour.sizeWith
noncomputable def D_X11_sizeWith (s : Sg) (a1 : Int32) : Int32 × Sg := (if (D_X11_isReach a1) = 0 then (0, s) else (if (D_X5_isDone 38 s) = 0 then (0, s) else ((D_X3_size 60 (D_X5_run 60 s (D_X5_entry 38 s) (D_X5_isShared 38 s) a1 (s 0 8) (-1))), (D_X5_run 60 s (D_X5_entry 38 s) (D_X5_isShared 38 s) a1 (s 0 8) (-1)))))
noncomputable def T_X11_sizeWith (s : Sg) (a1 : Int32) : Bool := (if (D_X11_isReach a1) = 0 then false else (if (D_X5_isDone 38 s) = 0 then false else true))
theorem m_X11_sizeWith (hP : WOK b w H0) {s : Sg} {a1 : Int32} (hN : NN s) (hT : T_X11_sizeWith s a1 = true) : Rx sc g_X11_sizeWith 6 ((0, [(0, .ref b), (1, .int a1)], [])) (wd b w wl H0 s, kn) (some (.int (D_X11_sizeWith s a1).1)) (wd b w wl H0 (D_X11_sizeWith s a1).2, kn) := by
  show Rx sc g_X11_sizeWith 6 (0, [(0, .ref b), (1, .int a1)], []) (wd b w wl H0 s, kn) (some (.int (D_X11_sizeWith s a1).1)) (wd b w wl H0 (D_X11_sizeWith s a1).2, kn)
  refine rx_k 1 (1, [(0, .ref b), (1, .int a1)], [.int a1]) (fun _ _ => rfl) ?_
  refine rx_inv rfl rfl (rc_X11_isReach) rfl rfl rfl rfl rfl rfl ?_
  by_cases c0 : (D_X11_isReach a1) = 0
  · refine rx_ifF rfl (nf c0) rfl ?_
    rw [(show T_X11_sizeWith s a1 = false from ((if_pos c0).trans rfl))] at hT
    cases hT
  · refine rx_ifT rfl (nt c0) ?_
    refine rx_k 1 (19, [(0, .ref b), (1, .int a1)], [.ref b]) (fun _ _ => rfl) ?_
    refine rx_getf rfl rfl (wg_0 hP) rfl ?_
    refine rx_inv rfl rfl (rc_X5_isDone hP (Or.inl rfl)) rfl rfl rfl (q_recv (wl_0 hP (Or.inl rfl))) rfl rfl ?_
    by_cases c1 : (D_X5_isDone 38 s) = 0
    · refine rx_ifF rfl (nf c1) rfl ?_
      rw [(show T_X11_sizeWith s a1 = false from ((if_neg c0).trans ((if_pos c1).trans rfl)))] at hT
      cases hT
    · refine rx_ifT rfl (nt c1) ?_
      refine rx_k 1 (40, [(0, .ref b), (1, .int a1)], [.ref b]) (fun _ _ => rfl) ?_
      refine rx_getf rfl rfl (wg_0 hP) rfl ?_
      refine rx_k 1 (44, [(0, .ref b), (1, .int a1)], [.ref b, .ref (b + 60)]) (fun _ _ => rfl) ?_
      refine rx_getf rfl rfl (wg_0 hP) rfl ?_
      refine rx_inv rfl rfl (rc_X5_entry hP (Or.inl rfl)) rfl rfl rfl (q_recv (wl_0 hP (Or.inl rfl))) rfl rfl ?_
      refine rx_k 1 (51, [(0, .ref b), (1, .int a1)], [.ref b, .int (D_X5_entry 38 s), .ref (b + 60)]) (fun _ _ => rfl) ?_
      refine rx_getf rfl rfl (wg_0 hP) rfl ?_
      refine rx_inv rfl rfl (rc_X5_isShared hP (Or.inl rfl)) rfl rfl rfl (q_recv (wl_0 hP (Or.inl rfl))) rfl rfl ?_
      refine rx_k 2 (59, [(0, .ref b), (1, .int a1)], [.ref b, .int a1, .int (D_X5_isShared 38 s), .int (D_X5_entry 38 s), .ref (b + 60)]) (fun _ _ => rfl) ?_
      refine rx_getf rfl rfl (wg_0 hP) rfl ?_
      refine rx_k 1 (63, [(0, .ref b), (1, .int a1)], [.int (-1), .int (s 0 8), .int a1, .int (D_X5_isShared 38 s), .int (D_X5_entry 38 s), .ref (b + 60)]) (fun _ _ => rfl) ?_
      refine rx_inv rfl rfl (rc_X5_run hP (Or.inr rfl) hN (bz_X5_isShared ..)) rfl rfl rfl (q_recv (wl_0 hP (Or.inr rfl))) rfl rfl ?_
      refine rx_k 1 (67, [(0, .ref b), (1, .int a1)], [.ref b]) (fun _ _ => rfl) ?_
      refine rx_getf rfl rfl (wg_0 hP) rfl ?_
      refine rx_getf rfl rfl (wl_0 hP (Or.inr rfl)) rfl ?_
      refine rx_inv rfl rfl (rc_X3_size hP (Or.inr rfl)) rfl rfl rfl (q_recv (wl_15 hP (Or.inr rfl))) rfl rfl ?_
      rw [(show (D_X11_sizeWith s a1) = ((D_X3_size 60 (D_X5_run 60 s (D_X5_entry 38 s) (D_X5_isShared 38 s) a1 (s 0 8) (-1))), (D_X5_run 60 s (D_X5_entry 38 s) (D_X5_isShared 38 s) a1 (s 0 8) (-1))) from ((if_neg c0).trans ((if_neg c1).trans rfl)))]
      exact rx_ri rfl
theorem rc_X11_sizeWith (hP : WOK b w H0) {s : Sg} {a1 : Int32} (hN : NN s) (hT : T_X11_sizeWith s a1 = true) : Rc sc 7 181 [.ref b, .int a1] (wd b w wl H0 s, kn) (some (.int (D_X11_sizeWith s a1).1)) (wd b w wl H0 (D_X11_sizeWith s a1).2, kn) := rx_mc (m_X11_sizeWith hP hN hT) rfl rfl (Nat.ble_eq_true_of_le (Nat.le_refl _)) (Nat.ble_eq_true_of_le (Nat.le_refl _))
theorem nn_X11_sizeWith {s : Sg} {a1 : Int32} (hN : NN s) : NN (D_X11_sizeWith s a1).2 := by
  by_cases c0 : (D_X11_isReach a1) = 0
  · exact pair_of (P := fun zs => NN zs) (show (D_X11_sizeWith s a1) = (0, s) from ((if_pos c0).trans rfl)) hN
  · by_cases c1 : (D_X5_isDone 38 s) = 0
    · exact pair_of (P := fun zs => NN zs) (show (D_X11_sizeWith s a1) = (0, s) from ((if_neg c0).trans ((if_pos c1).trans rfl))) hN
    · exact pair_of (P := fun zs => NN zs) (show (D_X11_sizeWith s a1) = ((D_X3_size 60 (D_X5_run 60 s (D_X5_entry 38 s) (D_X5_isShared 38 s) a1 (s 0 8) (-1))), (D_X5_run 60 s (D_X5_entry 38 s) (D_X5_isShared 38 s) a1 (s 0 8) (-1))) from ((if_neg c0).trans ((if_neg c1).trans rfl))) (nn_X5_run (Or.inr rfl) hN)
theorem fw_X11_sizeWith {s : Sg} {a1 : Int32} {k j : Nat} (x60_0f6 : k ≠ 60 ∨ j ≠ 6) (x60_0f7 : k ≠ 60 ∨ j ≠ 7) (x60_0f8 : k ≠ 60 ∨ j ≠ 8) (x60_1f1 : k ≠ 60 + 1 ∨ j ≠ 1) (x60_2 : k ≠ 60 + 2) (x60_3f3 : k ≠ 60 + 3 ∨ j ≠ 3) (x60_3f4 : k ≠ 60 + 3 ∨ j ≠ 4) (x60_3f5 : k ≠ 60 + 3 ∨ j ≠ 5) (x60_3f6 : k ≠ 60 + 3 ∨ j ≠ 6) (x60_4 : k ≠ 60 + 4) (x60_5f8 : k ≠ 60 + 5 ∨ j ≠ 8) (x60_5f9 : k ≠ 60 + 5 ∨ j ≠ 9) (x60_6 : k ≠ 60 + 6) (x60_7 : k ≠ 60 + 7) (x60_8 : k ≠ 60 + 8) (x60_9 : k ≠ 60 + 9) (x60_10 : k ≠ 60 + 10) (x60_11 : k ≠ 60 + 11) (x60_12f4 : k ≠ 60 + 12 ∨ j ≠ 4) (x60_12f5 : k ≠ 60 + 12 ∨ j ≠ 5) (x60_12f6 : k ≠ 60 + 12 ∨ j ≠ 6) (x60_12f7 : k ≠ 60 + 12 ∨ j ≠ 7) (x60_13 : k ≠ 60 + 13) (x60_14 : k ≠ 60 + 14) (x60_15f5 : k ≠ 60 + 15 ∨ j ≠ 5) (x60_15f11 : k ≠ 60 + 15 ∨ j ≠ 11) (x60_15f12 : k ≠ 60 + 15 ∨ j ≠ 12) (x60_16 : k ≠ 60 + 16) (x60_17 : k ≠ 60 + 17) (x60_18 : k ≠ 60 + 18) (x60_19 : k ≠ 60 + 19) (x60_20 : k ≠ 60 + 20) (x60_21 : k ≠ 60 + 21) : (D_X11_sizeWith s a1).2 k j = s k j := by
  by_cases c0 : (D_X11_isReach a1) = 0
  · exact pair_of (P := fun zs => zs k j = s k j) (show (D_X11_sizeWith s a1) = (0, s) from ((if_pos c0).trans rfl)) rfl
  · by_cases c1 : (D_X5_isDone 38 s) = 0
    · exact pair_of (P := fun zs => zs k j = s k j) (show (D_X11_sizeWith s a1) = (0, s) from ((if_neg c0).trans ((if_pos c1).trans rfl))) rfl
    · exact pair_of (P := fun zs => zs k j = s k j) (show (D_X11_sizeWith s a1) = ((D_X3_size 60 (D_X5_run 60 s (D_X5_entry 38 s) (D_X5_isShared 38 s) a1 (s 0 8) (-1))), (D_X5_run 60 s (D_X5_entry 38 s) (D_X5_isShared 38 s) a1 (s 0 8) (-1))) from ((if_neg c0).trans ((if_neg c1).trans rfl))) ((fw_X5_run x60_0f6 x60_0f7 x60_0f8 x60_1f1 x60_2 x60_3f3 x60_3f4 x60_3f5 x60_3f6 x60_4 x60_5f8 x60_5f9 x60_6 x60_7 x60_8 x60_9 x60_10 x60_11 x60_12f4 x60_12f5 x60_12f6 x60_12f7 x60_13 x60_14 x60_15f5 x60_15f11 x60_15f12 x60_16 x60_17 x60_18 x60_19 x60_20 x60_21).trans rfl)
theorem tq_sizeWith {s : Sg} (h1 : ¬ zb (s 38 6) = 0) : T_X11_sizeWith s 10 = true := by
  have h2 : ¬ D_X5_isDone 38 s = 0 := h1
  unfold T_X11_sizeWith
  rw [if_neg h2]
  rfl
theorem kj_X11_digest_X11_sizeWith {s : Sg} {a : Int32} (h : UB s ∧ ¬ zb (s 38 6) = 0) : UB (D_X11_sizeWith s a).2 ∧ ¬ zb ((D_X11_sizeWith s a).2 38 6) = 0 :=
  ⟨h.1.of (fw_X11_sizeWith (by decide) (by decide) (by decide) (by decide) (by decide) (by decide) (by decide) (by decide) (by decide) (by decide) (by decide) (by decide) (by decide) (by decide) (by decide) (by decide) (by decide) (by decide) (by decide) (by decide) (by decide) (by decide) (by decide) (by decide) (by decide) (by decide) (by decide) (by decide) (by decide) (by decide) (by decide) (by decide) (by decide)) (fw_X11_sizeWith (by decide) (by decide) (by decide) (by decide) (by decide) (by decide) (by decide) (by decide) (by decide) (by decide) (by decide) (by decide) (by decide) (by decide) (by decide) (by decide) (by decide) (by decide) (by decide) (by decide) (by decide) (by decide) (by decide) (by decide) (by decide) (by decide) (by decide) (by decide) (by decide) (by decide) (by decide) (by decide) (by decide)) (fw_X11_sizeWith (by decide) (by decide) (by decide) (by decide) (by decide) (by decide) (by decide) (by decide) (by decide) (by decide) (by decide) (by decide) (by decide) (by decide) (by decide) (by decide) (by decide) (by decide) (by decide) (by decide) (by decide) (by decide) (by decide) (by decide) (by decide) (by decide) (by decide) (by decide) (by decide) (by decide) (by decide) (by decide) (by decide)), by rw [fw_X11_sizeWith (by decide) (by decide) (by decide) (by decide) (by decide) (by decide) (by decide) (by decide) (by decide) (by decide) (by decide) (by decide) (by decide) (by decide) (by decide) (by decide) (by decide) (by decide) (by decide) (by decide) (by decide) (by decide) (by decide) (by decide) (by decide) (by decide) (by decide) (by decide) (by decide) (by decide) (by decide) (by decide) (by decide)]; exact h.2⟩
-- LinkHarbour.faultsWithout
noncomputable def D_X11_faultsWithout (s : Sg) (a1 : Int32) : Int32 × Sg := (if (D_X6_has s a1) = 0 then (0, s) else (if (D_X5_isDone 38 s) = 0 then (0, s) else ((D_X0_count 60 (D_X5_run 60 s (D_X5_entry 38 s) (D_X5_isShared 38 s) (s 0 7) (s 0 8) a1)), (D_X5_run 60 s (D_X5_entry 38 s) (D_X5_isShared 38 s) (s 0 7) (s 0 8) a1))))
noncomputable def T_X11_faultsWithout (s : Sg) (a1 : Int32) : Bool := (if (D_X6_has s a1) = 0 then false else (if (D_X5_isDone 38 s) = 0 then false else true))
theorem m_X11_faultsWithout (hP : WOK b w H0) {s : Sg} {a1 : Int32} (hN : NN s) (hT : T_X11_faultsWithout s a1 = true) : Rx sc g_X11_faultsWithout 6 ((0, [(0, .ref b), (1, .int a1)], [])) (wd b w wl H0 s, kn) (some (.int (D_X11_faultsWithout s a1).1)) (wd b w wl H0 (D_X11_faultsWithout s a1).2, kn) := by
  show Rx sc g_X11_faultsWithout 6 (0, [(0, .ref b), (1, .int a1)], []) (wd b w wl H0 s, kn) (some (.int (D_X11_faultsWithout s a1).1)) (wd b w wl H0 (D_X11_faultsWithout s a1).2, kn)
  refine rx_k 1 (1, [(0, .ref b), (1, .int a1)], [.ref b]) (fun _ _ => rfl) ?_
  refine rx_getf rfl rfl (wg_0 hP) rfl ?_
  refine rx_k 1 (5, [(0, .ref b), (1, .int a1)], [.int a1, .ref (b + 1)]) (fun _ _ => rfl) ?_
  refine rx_inv rfl rfl (rc_X6_has hP) rfl rfl rfl (q_recv (wg_1 hP)) rfl rfl ?_
  by_cases c0 : (D_X6_has s a1) = 0
  · refine rx_ifF rfl (nf c0) rfl ?_
    rw [(show T_X11_faultsWithout s a1 = false from ((if_pos c0).trans rfl))] at hT
    cases hT
  · refine rx_ifT rfl (nt c0) ?_
    refine rx_k 1 (22, [(0, .ref b), (1, .int a1)], [.ref b]) (fun _ _ => rfl) ?_
    refine rx_getf rfl rfl (wg_0 hP) rfl ?_
    refine rx_inv rfl rfl (rc_X5_isDone hP (Or.inl rfl)) rfl rfl rfl (q_recv (wl_0 hP (Or.inl rfl))) rfl rfl ?_
    by_cases c1 : (D_X5_isDone 38 s) = 0
    · refine rx_ifF rfl (nf c1) rfl ?_
      rw [(show T_X11_faultsWithout s a1 = false from ((if_neg c0).trans ((if_pos c1).trans rfl)))] at hT
      cases hT
    · refine rx_ifT rfl (nt c1) ?_
      refine rx_k 1 (43, [(0, .ref b), (1, .int a1)], [.ref b]) (fun _ _ => rfl) ?_
      refine rx_getf rfl rfl (wg_0 hP) rfl ?_
      refine rx_k 1 (47, [(0, .ref b), (1, .int a1)], [.ref b, .ref (b + 60)]) (fun _ _ => rfl) ?_
      refine rx_getf rfl rfl (wg_0 hP) rfl ?_
      refine rx_inv rfl rfl (rc_X5_entry hP (Or.inl rfl)) rfl rfl rfl (q_recv (wl_0 hP (Or.inl rfl))) rfl rfl ?_
      refine rx_k 1 (54, [(0, .ref b), (1, .int a1)], [.ref b, .int (D_X5_entry 38 s), .ref (b + 60)]) (fun _ _ => rfl) ?_
      refine rx_getf rfl rfl (wg_0 hP) rfl ?_
      refine rx_inv rfl rfl (rc_X5_isShared hP (Or.inl rfl)) rfl rfl rfl (q_recv (wl_0 hP (Or.inl rfl))) rfl rfl ?_
      refine rx_k 1 (61, [(0, .ref b), (1, .int a1)], [.ref b, .int (D_X5_isShared 38 s), .int (D_X5_entry 38 s), .ref (b + 60)]) (fun _ _ => rfl) ?_
      refine rx_getf rfl rfl (wg_0 hP) rfl ?_
      refine rx_k 1 (65, [(0, .ref b), (1, .int a1)], [.ref b, .int (s 0 7), .int (D_X5_isShared 38 s), .int (D_X5_entry 38 s), .ref (b + 60)]) (fun _ _ => rfl) ?_
      refine rx_getf rfl rfl (wg_0 hP) rfl ?_
      refine rx_k 1 (69, [(0, .ref b), (1, .int a1)], [.int a1, .int (s 0 8), .int (s 0 7), .int (D_X5_isShared 38 s), .int (D_X5_entry 38 s), .ref (b + 60)]) (fun _ _ => rfl) ?_
      refine rx_inv rfl rfl (rc_X5_run hP (Or.inr rfl) hN (bz_X5_isShared ..)) rfl rfl rfl (q_recv (wl_0 hP (Or.inr rfl))) rfl rfl ?_
      refine rx_k 1 (73, [(0, .ref b), (1, .int a1)], [.ref b]) (fun _ _ => rfl) ?_
      refine rx_getf rfl rfl (wg_0 hP) rfl ?_
      refine rx_getf rfl rfl (wl_0 hP (Or.inr rfl)) rfl ?_
      refine rx_inv rfl rfl (rc_X0_count hP (Or.inr rfl)) rfl rfl rfl (q_recv (wl_1 hP (Or.inr rfl))) rfl rfl ?_
      rw [(show (D_X11_faultsWithout s a1) = ((D_X0_count 60 (D_X5_run 60 s (D_X5_entry 38 s) (D_X5_isShared 38 s) (s 0 7) (s 0 8) a1)), (D_X5_run 60 s (D_X5_entry 38 s) (D_X5_isShared 38 s) (s 0 7) (s 0 8) a1)) from ((if_neg c0).trans ((if_neg c1).trans rfl)))]
      exact rx_ri rfl
theorem rc_X11_faultsWithout (hP : WOK b w H0) {s : Sg} {a1 : Int32} (hN : NN s) (hT : T_X11_faultsWithout s a1 = true) : Rc sc 7 182 [.ref b, .int a1] (wd b w wl H0 s, kn) (some (.int (D_X11_faultsWithout s a1).1)) (wd b w wl H0 (D_X11_faultsWithout s a1).2, kn) := rx_mc (m_X11_faultsWithout hP hN hT) rfl rfl (Nat.ble_eq_true_of_le (Nat.le_refl _)) (Nat.ble_eq_true_of_le (Nat.le_refl _))
theorem nn_X11_faultsWithout {s : Sg} {a1 : Int32} (hN : NN s) : NN (D_X11_faultsWithout s a1).2 := by
  by_cases c0 : (D_X6_has s a1) = 0
  · exact pair_of (P := fun zs => NN zs) (show (D_X11_faultsWithout s a1) = (0, s) from ((if_pos c0).trans rfl)) hN
  · by_cases c1 : (D_X5_isDone 38 s) = 0
    · exact pair_of (P := fun zs => NN zs) (show (D_X11_faultsWithout s a1) = (0, s) from ((if_neg c0).trans ((if_pos c1).trans rfl))) hN
    · exact pair_of (P := fun zs => NN zs) (show (D_X11_faultsWithout s a1) = ((D_X0_count 60 (D_X5_run 60 s (D_X5_entry 38 s) (D_X5_isShared 38 s) (s 0 7) (s 0 8) a1)), (D_X5_run 60 s (D_X5_entry 38 s) (D_X5_isShared 38 s) (s 0 7) (s 0 8) a1)) from ((if_neg c0).trans ((if_neg c1).trans rfl))) (nn_X5_run (Or.inr rfl) hN)
theorem fw_X11_faultsWithout {s : Sg} {a1 : Int32} {k j : Nat} (x60_0f6 : k ≠ 60 ∨ j ≠ 6) (x60_0f7 : k ≠ 60 ∨ j ≠ 7) (x60_0f8 : k ≠ 60 ∨ j ≠ 8) (x60_1f1 : k ≠ 60 + 1 ∨ j ≠ 1) (x60_2 : k ≠ 60 + 2) (x60_3f3 : k ≠ 60 + 3 ∨ j ≠ 3) (x60_3f4 : k ≠ 60 + 3 ∨ j ≠ 4) (x60_3f5 : k ≠ 60 + 3 ∨ j ≠ 5) (x60_3f6 : k ≠ 60 + 3 ∨ j ≠ 6) (x60_4 : k ≠ 60 + 4) (x60_5f8 : k ≠ 60 + 5 ∨ j ≠ 8) (x60_5f9 : k ≠ 60 + 5 ∨ j ≠ 9) (x60_6 : k ≠ 60 + 6) (x60_7 : k ≠ 60 + 7) (x60_8 : k ≠ 60 + 8) (x60_9 : k ≠ 60 + 9) (x60_10 : k ≠ 60 + 10) (x60_11 : k ≠ 60 + 11) (x60_12f4 : k ≠ 60 + 12 ∨ j ≠ 4) (x60_12f5 : k ≠ 60 + 12 ∨ j ≠ 5) (x60_12f6 : k ≠ 60 + 12 ∨ j ≠ 6) (x60_12f7 : k ≠ 60 + 12 ∨ j ≠ 7) (x60_13 : k ≠ 60 + 13) (x60_14 : k ≠ 60 + 14) (x60_15f5 : k ≠ 60 + 15 ∨ j ≠ 5) (x60_15f11 : k ≠ 60 + 15 ∨ j ≠ 11) (x60_15f12 : k ≠ 60 + 15 ∨ j ≠ 12) (x60_16 : k ≠ 60 + 16) (x60_17 : k ≠ 60 + 17) (x60_18 : k ≠ 60 + 18) (x60_19 : k ≠ 60 + 19) (x60_20 : k ≠ 60 + 20) (x60_21 : k ≠ 60 + 21) : (D_X11_faultsWithout s a1).2 k j = s k j := by
  by_cases c0 : (D_X6_has s a1) = 0
  · exact pair_of (P := fun zs => zs k j = s k j) (show (D_X11_faultsWithout s a1) = (0, s) from ((if_pos c0).trans rfl)) rfl
  · by_cases c1 : (D_X5_isDone 38 s) = 0
    · exact pair_of (P := fun zs => zs k j = s k j) (show (D_X11_faultsWithout s a1) = (0, s) from ((if_neg c0).trans ((if_pos c1).trans rfl))) rfl
    · exact pair_of (P := fun zs => zs k j = s k j) (show (D_X11_faultsWithout s a1) = ((D_X0_count 60 (D_X5_run 60 s (D_X5_entry 38 s) (D_X5_isShared 38 s) (s 0 7) (s 0 8) a1)), (D_X5_run 60 s (D_X5_entry 38 s) (D_X5_isShared 38 s) (s 0 7) (s 0 8) a1)) from ((if_neg c0).trans ((if_neg c1).trans rfl))) ((fw_X5_run x60_0f6 x60_0f7 x60_0f8 x60_1f1 x60_2 x60_3f3 x60_3f4 x60_3f5 x60_3f6 x60_4 x60_5f8 x60_5f9 x60_6 x60_7 x60_8 x60_9 x60_10 x60_11 x60_12f4 x60_12f5 x60_12f6 x60_12f7 x60_13 x60_14 x60_15f5 x60_15f11 x60_15f12 x60_16 x60_17 x60_18 x60_19 x60_20 x60_21).trans rfl)
theorem tq_faultsWithout {s : Sg} {a : Int32} (h1 : ¬ D_X6_has s a = 0) (h2 : ¬ zb (s 38 6) = 0) : T_X11_faultsWithout s a = true := by
  have h3 : ¬ D_X5_isDone 38 s = 0 := h2
  unfold T_X11_faultsWithout
  rw [if_neg h1, if_neg h3]
theorem kj_X11_digest_X11_faultsWithout {s : Sg} {a : Int32} (h : UB s ∧ ¬ zb (s 38 6) = 0) : UB (D_X11_faultsWithout s a).2 ∧ ¬ zb ((D_X11_faultsWithout s a).2 38 6) = 0 :=
  ⟨h.1.of (fw_X11_faultsWithout (by decide) (by decide) (by decide) (by decide) (by decide) (by decide) (by decide) (by decide) (by decide) (by decide) (by decide) (by decide) (by decide) (by decide) (by decide) (by decide) (by decide) (by decide) (by decide) (by decide) (by decide) (by decide) (by decide) (by decide) (by decide) (by decide) (by decide) (by decide) (by decide) (by decide) (by decide) (by decide) (by decide)) (fw_X11_faultsWithout (by decide) (by decide) (by decide) (by decide) (by decide) (by decide) (by decide) (by decide) (by decide) (by decide) (by decide) (by decide) (by decide) (by decide) (by decide) (by decide) (by decide) (by decide) (by decide) (by decide) (by decide) (by decide) (by decide) (by decide) (by decide) (by decide) (by decide) (by decide) (by decide) (by decide) (by decide) (by decide) (by decide)) (fw_X11_faultsWithout (by decide) (by decide) (by decide) (by decide) (by decide) (by decide) (by decide) (by decide) (by decide) (by decide) (by decide) (by decide) (by decide) (by decide) (by decide) (by decide) (by decide) (by decide) (by decide) (by decide) (by decide) (by decide) (by decide) (by decide) (by decide) (by decide) (by decide) (by decide) (by decide) (by decide) (by decide) (by decide) (by decide)), by rw [fw_X11_faultsWithout (by decide) (by decide) (by decide) (by decide) (by decide) (by decide) (by decide) (by decide) (by decide) (by decide) (by decide) (by decide) (by decide) (by decide) (by decide) (by decide) (by decide) (by decide) (by decide) (by decide) (by decide) (by decide) (by decide) (by decide) (by decide) (by decide) (by decide) (by decide) (by decide) (by decide) (by decide) (by decide) (by decide)]; exact h.2⟩
-- LinkHarbour.goes
noncomputable def D_X11_goes (s : Sg) (a1 : Int32) : Int32 × Sg := (if (D_X4_has s a1) = 0 then (0, s) else (if (D_X4_opened s a1) = 0 then (0, s) else ((D_X4_leavingBy s a1).1, (D_X4_leavingBy s a1).2)))
noncomputable def T_X11_goes (s : Sg) (a1 : Int32) : Bool := (if (D_X4_has s a1) = 0 then false else (if (D_X4_opened s a1) = 0 then true else true))
theorem m_X11_goes (hP : WOK b w H0) {s : Sg} {a1 : Int32} (hN : NN s) (hT : T_X11_goes s a1 = true) : Rx sc g_X11_goes 5 ((0, [(0, .ref b), (1, .int a1)], [])) (wd b w wl H0 s, kn) (some (.int (D_X11_goes s a1).1)) (wd b w wl H0 (D_X11_goes s a1).2, kn) := by
  show Rx sc g_X11_goes 5 (0, [(0, .ref b), (1, .int a1)], []) (wd b w wl H0 s, kn) (some (.int (D_X11_goes s a1).1)) (wd b w wl H0 (D_X11_goes s a1).2, kn)
  refine rx_k 1 (1, [(0, .ref b), (1, .int a1)], [.ref b]) (fun _ _ => rfl) ?_
  refine rx_getf rfl rfl (wg_0 hP) rfl ?_
  refine rx_k 1 (5, [(0, .ref b), (1, .int a1)], [.int a1, .ref (b + 23)]) (fun _ _ => rfl) ?_
  refine rx_inv rfl rfl (rc_X4_has hP) rfl rfl rfl (q_recv (wg_23 hP)) rfl rfl ?_
  by_cases c0 : (D_X4_has s a1) = 0
  · refine rx_ifF rfl (nf c0) rfl ?_
    rw [(show T_X11_goes s a1 = false from ((if_pos c0).trans rfl))] at hT
    cases hT
  · refine rx_ifT rfl (nt c0) ?_
    refine rx_k 1 (23, [(0, .ref b), (1, .int a1)], [.ref b]) (fun _ _ => rfl) ?_
    refine rx_getf rfl rfl (wg_0 hP) rfl ?_
    refine rx_k 1 (27, [(0, .ref b), (1, .int a1)], [.int a1, .ref (b + 23)]) (fun _ _ => rfl) ?_
    refine rx_inv rfl rfl (rc_X4_opened hP) rfl rfl rfl (q_recv (wg_23 hP)) rfl rfl ?_
    by_cases c1 : (D_X4_opened s a1) = 0
    · refine rx_ifF rfl (nf c1) rfl ?_
      refine rx_k 2 (45, [(0, .ref b), (1, .int a1)], [.int 0]) (fun _ _ => rfl) ?_
      rw [(show (D_X11_goes s a1) = (0, s) from ((if_neg c0).trans ((if_pos c1).trans rfl)))]
      exact rx_ri rfl
    · refine rx_ifT rfl (nt c1) ?_
      refine rx_k 1 (38, [(0, .ref b), (1, .int a1)], [.ref b]) (fun _ _ => rfl) ?_
      refine rx_getf rfl rfl (wg_0 hP) rfl ?_
      refine rx_k 1 (42, [(0, .ref b), (1, .int a1)], [.int a1, .ref (b + 23)]) (fun _ _ => rfl) ?_
      refine rx_inv rfl rfl (rc_X4_leavingBy hP hN) rfl rfl rfl (q_recv (wg_23 hP)) rfl rfl ?_
      rw [(show (D_X11_goes s a1) = ((D_X4_leavingBy s a1).1, (D_X4_leavingBy s a1).2) from ((if_neg c0).trans ((if_neg c1).trans rfl)))]
      exact rx_ri rfl
theorem rc_X11_goes (hP : WOK b w H0) {s : Sg} {a1 : Int32} (hN : NN s) (hT : T_X11_goes s a1 = true) : Rc sc 6 183 [.ref b, .int a1] (wd b w wl H0 s, kn) (some (.int (D_X11_goes s a1).1)) (wd b w wl H0 (D_X11_goes s a1).2, kn) := rx_mc (m_X11_goes hP hN hT) rfl rfl (Nat.ble_eq_true_of_le (Nat.le_refl _)) (Nat.ble_eq_true_of_le (Nat.le_refl _))
theorem nn_X11_goes {s : Sg} {a1 : Int32} (hN : NN s) : NN (D_X11_goes s a1).2 := by
  by_cases c0 : (D_X4_has s a1) = 0
  · exact pair_of (P := fun zs => NN zs) (show (D_X11_goes s a1) = (0, s) from ((if_pos c0).trans rfl)) hN
  · by_cases c1 : (D_X4_opened s a1) = 0
    · exact pair_of (P := fun zs => NN zs) (show (D_X11_goes s a1) = (0, s) from ((if_neg c0).trans ((if_pos c1).trans rfl))) hN
    · exact pair_of (P := fun zs => NN zs) (show (D_X11_goes s a1) = ((D_X4_leavingBy s a1).1, (D_X4_leavingBy s a1).2) from ((if_neg c0).trans ((if_neg c1).trans rfl))) (nn_X4_leavingBy hN)
theorem fw_X11_goes {s : Sg} {a1 : Int32} {k j : Nat} (h23f12 : k ≠ 23 ∨ j ≠ 12) (h34 : k ≠ 34) : (D_X11_goes s a1).2 k j = s k j := by
  by_cases c0 : (D_X4_has s a1) = 0
  · exact pair_of (P := fun zs => zs k j = s k j) (show (D_X11_goes s a1) = (0, s) from ((if_pos c0).trans rfl)) rfl
  · by_cases c1 : (D_X4_opened s a1) = 0
    · exact pair_of (P := fun zs => zs k j = s k j) (show (D_X11_goes s a1) = (0, s) from ((if_neg c0).trans ((if_pos c1).trans rfl))) rfl
    · exact pair_of (P := fun zs => zs k j = s k j) (show (D_X11_goes s a1) = ((D_X4_leavingBy s a1).1, (D_X4_leavingBy s a1).2) from ((if_neg c0).trans ((if_neg c1).trans rfl))) ((fw_X4_leavingBy h23f12 h34).trans rfl)
theorem tq_goes {s : Sg} {a : Int32} (h1 : ¬ D_X4_has s a = 0) : T_X11_goes s a = true := by
  unfold T_X11_goes
  rw [if_neg h1, ite_self]
theorem has_4e {s t : Sg} {a : Int32} (h : t 23 13 = s 23 13) : D_X4_has t a = D_X4_has s a := by
  unfold D_X4_has
  rw [h]
theorem kj_X11_mixLibrary_X11_goes {s : Sg} {a3 a : Int32} (h : UB s ∧ ¬ D_X4_has s a3 = 0) : UB (D_X11_goes s a).2 ∧ ¬ D_X4_has (D_X11_goes s a).2 a3 = 0 :=
  ⟨h.1.of (fw_X11_goes (by decide) (by decide)) (fw_X11_goes (by decide) (by decide)) (fw_X11_goes (by decide) (by decide)), by rw [has_4e (fw_X11_goes (by decide) (by decide))]; exact h.2⟩
-- LinkHarbour.wouldBind
noncomputable def D_X11_wouldBind (s : Sg) (a1 : Int32) (a2 : Int32) : Int32 × Sg := (if (D_X4_has s a1) = 0 then (0, s) else (if (D_X11_isName a2) = 0 then (0, s) else (if (D_X4_isLoaded s a1) = 0 then ((-1), s) else (if (D_X4_isImport s a1 a2) = 0 then ((-1), s) else ((D_X4_firstExporter s a1 a2).1, (D_X4_firstExporter s a1 a2).2)))))
noncomputable def T_X11_wouldBind (s : Sg) (a1 : Int32) (a2 : Int32) : Bool := (if (D_X4_has s a1) = 0 then false else (if (D_X11_isName a2) = 0 then false else (if (D_X4_isLoaded s a1) = 0 then true else (if (D_X4_isImport s a1 a2) = 0 then true else true))))
theorem m_X11_wouldBind (hP : WOK b w H0) {s : Sg} {a1 : Int32} {a2 : Int32} (hN : NN s) (hT : T_X11_wouldBind s a1 a2 = true) : Rx sc g_X11_wouldBind 4 ((0, [(0, .ref b), (1, .int a1), (2, .int a2)], [])) (wd b w wl H0 s, kn) (some (.int (D_X11_wouldBind s a1 a2).1)) (wd b w wl H0 (D_X11_wouldBind s a1 a2).2, kn) := by
  show Rx sc g_X11_wouldBind 4 (0, [(0, .ref b), (1, .int a1), (2, .int a2)], []) (wd b w wl H0 s, kn) (some (.int (D_X11_wouldBind s a1 a2).1)) (wd b w wl H0 (D_X11_wouldBind s a1 a2).2, kn)
  refine rx_k 1 (1, [(0, .ref b), (1, .int a1), (2, .int a2)], [.ref b]) (fun _ _ => rfl) ?_
  refine rx_getf rfl rfl (wg_0 hP) rfl ?_
  refine rx_k 1 (5, [(0, .ref b), (1, .int a1), (2, .int a2)], [.int a1, .ref (b + 23)]) (fun _ _ => rfl) ?_
  refine rx_inv rfl rfl (rc_X4_has hP) rfl rfl rfl (q_recv (wg_23 hP)) rfl rfl ?_
  by_cases c0 : (D_X4_has s a1) = 0
  · refine rx_ifF rfl (nf c0) rfl ?_
    rw [(show T_X11_wouldBind s a1 a2 = false from ((if_pos c0).trans rfl))] at hT
    cases hT
  · refine rx_ifT rfl (nt c0) ?_
    refine rx_k 1 (23, [(0, .ref b), (1, .int a1), (2, .int a2)], [.int a2]) (fun _ _ => rfl) ?_
    refine rx_inv rfl rfl (rc_X11_isName) rfl rfl rfl rfl rfl rfl ?_
    by_cases c1 : (D_X11_isName a2) = 0
    · refine rx_ifF rfl (nf c1) rfl ?_
      rw [(show T_X11_wouldBind s a1 a2 = false from ((if_neg c0).trans ((if_pos c1).trans rfl)))] at hT
      cases hT
    · refine rx_ifT rfl (nt c1) ?_
      refine rx_k 1 (40, [(0, .ref b), (1, .int a1), (2, .int a2)], [.ref b]) (fun _ _ => rfl) ?_
      refine rx_getf rfl rfl (wg_0 hP) rfl ?_
      refine rx_k 1 (44, [(0, .ref b), (1, .int a1), (2, .int a2)], [.int a1, .ref (b + 23)]) (fun _ _ => rfl) ?_
      refine rx_inv rfl rfl (rc_X4_isLoaded hP) rfl rfl rfl (q_recv (wg_23 hP)) rfl rfl ?_
      by_cases c2 : (D_X4_isLoaded s a1) = 0
      · refine rx_ifT rfl (bt c2) ?_
        refine rx_k 1 (63, [(0, .ref b), (1, .int a1), (2, .int a2)], [.int (-1)]) (fun _ _ => rfl) ?_
        rw [(show (D_X11_wouldBind s a1 a2) = ((-1), s) from ((if_neg c0).trans ((if_neg c1).trans ((if_pos c2).trans rfl))))]
        exact rx_ri rfl
      · refine rx_ifF rfl (bf c2) rfl ?_
        refine rx_k 1 (51, [(0, .ref b), (1, .int a1), (2, .int a2)], [.ref b]) (fun _ _ => rfl) ?_
        refine rx_getf rfl rfl (wg_0 hP) rfl ?_
        refine rx_k 2 (56, [(0, .ref b), (1, .int a1), (2, .int a2)], [.int a2, .int a1, .ref (b + 23)]) (fun _ _ => rfl) ?_
        refine rx_inv rfl rfl (rc_X4_isImport hP) rfl rfl rfl (q_recv (wg_23 hP)) rfl rfl ?_
        by_cases c3 : (D_X4_isImport s a1 a2) = 0
        · refine rx_ifF rfl (nf c3) rfl ?_
          refine rx_k 1 (63, [(0, .ref b), (1, .int a1), (2, .int a2)], [.int (-1)]) (fun _ _ => rfl) ?_
          rw [(show (D_X11_wouldBind s a1 a2) = ((-1), s) from ((if_neg c0).trans ((if_neg c1).trans ((if_neg c2).trans ((if_pos c3).trans rfl)))))]
          exact rx_ri rfl
        · refine rx_ifT rfl (nt c3) ?_
          refine rx_k 1 (65, [(0, .ref b), (1, .int a1), (2, .int a2)], [.ref b]) (fun _ _ => rfl) ?_
          refine rx_getf rfl rfl (wg_0 hP) rfl ?_
          refine rx_k 2 (70, [(0, .ref b), (1, .int a1), (2, .int a2)], [.int a2, .int a1, .ref (b + 23)]) (fun _ _ => rfl) ?_
          refine rx_inv rfl rfl (rc_X4_firstExporter hP hN) rfl rfl rfl (q_recv (wg_23 hP)) rfl rfl ?_
          rw [(show (D_X11_wouldBind s a1 a2) = ((D_X4_firstExporter s a1 a2).1, (D_X4_firstExporter s a1 a2).2) from ((if_neg c0).trans ((if_neg c1).trans ((if_neg c2).trans ((if_neg c3).trans rfl)))))]
          exact rx_ri rfl
theorem rc_X11_wouldBind (hP : WOK b w H0) {s : Sg} {a1 : Int32} {a2 : Int32} (hN : NN s) (hT : T_X11_wouldBind s a1 a2 = true) : Rc sc 5 184 [.ref b, .int a1, .int a2] (wd b w wl H0 s, kn) (some (.int (D_X11_wouldBind s a1 a2).1)) (wd b w wl H0 (D_X11_wouldBind s a1 a2).2, kn) := rx_mc (m_X11_wouldBind hP hN hT) rfl rfl (Nat.ble_eq_true_of_le (Nat.le_refl _)) (Nat.ble_eq_true_of_le (Nat.le_refl _))
theorem nn_X11_wouldBind {s : Sg} {a1 : Int32} {a2 : Int32} (hN : NN s) : NN (D_X11_wouldBind s a1 a2).2 := by
  by_cases c0 : (D_X4_has s a1) = 0
  · exact pair_of (P := fun zs => NN zs) (show (D_X11_wouldBind s a1 a2) = (0, s) from ((if_pos c0).trans rfl)) hN
  · by_cases c1 : (D_X11_isName a2) = 0
    · exact pair_of (P := fun zs => NN zs) (show (D_X11_wouldBind s a1 a2) = (0, s) from ((if_neg c0).trans ((if_pos c1).trans rfl))) hN
    · by_cases c2 : (D_X4_isLoaded s a1) = 0
      · exact pair_of (P := fun zs => NN zs) (show (D_X11_wouldBind s a1 a2) = ((-1), s) from ((if_neg c0).trans ((if_neg c1).trans ((if_pos c2).trans rfl)))) hN
      · by_cases c3 : (D_X4_isImport s a1 a2) = 0
        · exact pair_of (P := fun zs => NN zs) (show (D_X11_wouldBind s a1 a2) = ((-1), s) from ((if_neg c0).trans ((if_neg c1).trans ((if_neg c2).trans ((if_pos c3).trans rfl))))) hN
        · exact pair_of (P := fun zs => NN zs) (show (D_X11_wouldBind s a1 a2) = ((D_X4_firstExporter s a1 a2).1, (D_X4_firstExporter s a1 a2).2) from ((if_neg c0).trans ((if_neg c1).trans ((if_neg c2).trans ((if_neg c3).trans rfl))))) (nn_X4_firstExporter hN)
theorem fw_X11_wouldBind {s : Sg} {a1 : Int32} {a2 : Int32} {k j : Nat} (h23f12 : k ≠ 23 ∨ j ≠ 12) (h34 : k ≠ 34) : (D_X11_wouldBind s a1 a2).2 k j = s k j := by
  by_cases c0 : (D_X4_has s a1) = 0
  · exact pair_of (P := fun zs => zs k j = s k j) (show (D_X11_wouldBind s a1 a2) = (0, s) from ((if_pos c0).trans rfl)) rfl
  · by_cases c1 : (D_X11_isName a2) = 0
    · exact pair_of (P := fun zs => zs k j = s k j) (show (D_X11_wouldBind s a1 a2) = (0, s) from ((if_neg c0).trans ((if_pos c1).trans rfl))) rfl
    · by_cases c2 : (D_X4_isLoaded s a1) = 0
      · exact pair_of (P := fun zs => zs k j = s k j) (show (D_X11_wouldBind s a1 a2) = ((-1), s) from ((if_neg c0).trans ((if_neg c1).trans ((if_pos c2).trans rfl)))) rfl
      · by_cases c3 : (D_X4_isImport s a1 a2) = 0
        · exact pair_of (P := fun zs => zs k j = s k j) (show (D_X11_wouldBind s a1 a2) = ((-1), s) from ((if_neg c0).trans ((if_neg c1).trans ((if_neg c2).trans ((if_pos c3).trans rfl))))) rfl
        · exact pair_of (P := fun zs => zs k j = s k j) (show (D_X11_wouldBind s a1 a2) = ((D_X4_firstExporter s a1 a2).1, (D_X4_firstExporter s a1 a2).2) from ((if_neg c0).trans ((if_neg c1).trans ((if_neg c2).trans ((if_neg c3).trans rfl))))) ((fw_X4_firstExporter h23f12 h34).trans rfl)
theorem tq_wouldBind {s : Sg} {a c : Int32} (h1 : ¬ D_X4_has s a = 0) (h2 : rg c 20) : T_X11_wouldBind s a c = true := by
  unfold T_X11_wouldBind
  rw [if_neg h1, if_neg (isName_rg h2), ite_self, ite_self]
theorem kj_X11_mixLibrary_X11_wouldBind {s : Sg} {a3 a c : Int32} (h : UB s ∧ ¬ D_X4_has s a3 = 0) : UB (D_X11_wouldBind s a c).2 ∧ ¬ D_X4_has (D_X11_wouldBind s a c).2 a3 = 0 :=
  ⟨h.1.of (fw_X11_wouldBind (by decide) (by decide)) (fw_X11_wouldBind (by decide) (by decide)) (fw_X11_wouldBind (by decide) (by decide)), by rw [has_4e (fw_X11_wouldBind (by decide) (by decide))]; exact h.2⟩
-- LinkHarbour.mix
noncomputable def D_X11_mix (a0 : Int64) (a2 : Int64) : Int64 := ((a0 * 31) + a2)
theorem m_X11_mix {hh : EH} {a0 : Int64} {a2 : Int64} : Rx sc g_X11_mix 0 ((0, [(0, .long a0), (2, .long a2)], [])) hh (some (.long (D_X11_mix a0 a2))) hh := by
  show Rx sc g_X11_mix 0 (0, [(0, .long a0), (2, .long a2)], []) hh (some (.long (D_X11_mix a0 a2))) hh
  refine rx_k 5 (7, [(0, .long a0), (2, .long a2)], [.long ((a0 * 31) + a2)]) (fun _ _ => rfl) ?_
  rw [(show (D_X11_mix a0 a2) = ((a0 * 31) + a2) from rfl)]
  exact rx_rl rfl
theorem rc_X11_mix {hh : EH} {a0 : Int64} {a2 : Int64} : Rc sc 1 191 [.long a0, .long a2] hh (some (.long (D_X11_mix a0 a2))) hh := rx_mc (m_X11_mix) rfl rfl (Nat.ble_eq_true_of_le (Nat.le_refl _)) (Nat.ble_eq_true_of_le (Nat.le_refl _))
-- LinkHarbour.mixObjects
def fr_X11_mixObjects_5 (b w : Nat) (x5 : Int32) (x3 : Int64) : EF := (5, [(0, .ref b), (3, .long x3), (5, .int x5)], [])
def fe_X11_mixObjects_5 (b w : Nat) (x5 : Int32) (x3 : Int64) : EF := (52, [(3, .long x3)], [])
def fr_X11_mixObjects_20 (b w : Nat) (a5 : Int32) (x6 : Int32) (x3 : Int64) : EF := (20, [(0, .ref b), (3, .long x3), (5, .int a5), (6, .int x6)], [])
def fe_X11_mixObjects_20 (b w : Nat) (a5 : Int32) (x6 : Int32) (x3 : Int64) : EF := (46, [(0, .ref b), (3, .long x3), (5, .int a5)], [])
noncomputable def B_X11_mixObjects_20 (s : Sg) (a5 : Int32) (x6 : Int32) (x3 : Int64) : Bool × (Int32 × Int64) := (if 3 < x6 then (false, (x6, x3)) else (true, ((x6 + 1), (D_X11_mix x3 (D_X11_ofObject s a5 x6).toInt64))))
theorem b_X11_mixObjects_20 (hP : WOK b w H0) {s : Sg} {a5 : Int32} {x6 : Int32} {x3 : Int64} (k0 : ¬ (D_X6_count s) ≤ a5) (n0 : 0 ≤ a5.toInt) (o : Option Value) (h' : EH) (hN : (NN s ∧ UB s)) (hv : 0 ≤ x6.toInt) (hc : ∀ (t6 : Int32) (t3 : Int64), (B_X11_mixObjects_20 s a5 x6 x3) = (true, (t6, t3)) → x6.toInt < 2147483647 → t6 = x6 + 1 → Rx sc g_X11_mixObjects 3 (fr_X11_mixObjects_20 b w a5 t6 t3) (wd b w wl H0 s, kn) o h') (he : ∀ (t6 : Int32) (t3 : Int64), (B_X11_mixObjects_20 s a5 x6 x3) = (false, (t6, t3)) → Rx sc g_X11_mixObjects 3 (fe_X11_mixObjects_20 b w a5 t6 t3) (wd b w wl H0 s, kn) o h') : Rx sc g_X11_mixObjects 3 (fr_X11_mixObjects_20 b w a5 x6 x3) (wd b w wl H0 s, kn) o h' := by
  show Rx sc g_X11_mixObjects 3 (20, [(0, .ref b), (3, .long x3), (5, .int a5), (6, .int x6)], []) (wd b w wl H0 s, kn) o h'
  refine rx_k 2 (23, [(0, .ref b), (3, .long x3), (5, .int a5), (6, .int x6)], [.int 3, .int x6]) (fun _ _ => rfl) ?_
  by_cases c0 : 3 < x6
  · refine rx_icT rfl (bt c0) ?_
    exact rx_lo am_X11_mixObjects (lo := [(0, .ref b), (3, .long x3), (5, .int a5)]) (List.forall_mem_cons.mpr ⟨List.mem_of_getElem? (i := 0) rfl, (List.forall_mem_cons.mpr ⟨List.mem_of_getElem? (i := 1) rfl, (List.forall_mem_cons.mpr ⟨List.mem_of_getElem? (i := 2) rfl, (fun _ h => absurd h List.not_mem_nil)⟩)⟩)⟩) rfl (he _ _ (show (B_X11_mixObjects_20 s a5 x6 x3) = (false, (x6, x3)) from ((if_pos c0).trans rfl)))
  · refine rx_icF rfl (bf c0) rfl ?_
    refine rx_k 4 (32, [(0, .ref b), (3, .long x3), (5, .int a5), (6, .int x6)], [.int x6, .int a5, .ref b, .long x3]) (fun _ _ => rfl) ?_
    refine rx_inv rfl rfl (rc_X11_ofObject hP hN.1 (tq_ofObject (has_6 n0 k0 hN.2.1) (rg_e hv (Int32.not_lt.mp c0) (m := 3) (n := 4) rfl))) rfl rfl rfl (q_recv (wg_0 hP)) rfl rfl ?_
    refine rx_k 1 (36, [(0, .ref b), (3, .long x3), (5, .int a5), (6, .int x6)], [.long (D_X11_ofObject s a5 x6).toInt64, .long x3]) (fun _ _ => rfl) ?_
    refine rx_inv rfl rfl (rc_X11_mix) rfl rfl rfl rfl rfl rfl ?_
    refine rx_k 3 (20, [(6, .int (x6 + 1)), (3, .long (D_X11_mix x3 (D_X11_ofObject s a5 x6).toInt64)), (0, .ref b), (5, .int a5)], []) (fun _ _ => rfl) ?_
    refine rx_lo am_X11_mixObjects (lo := [(0, .ref b), (3, .long (D_X11_mix x3 (D_X11_ofObject s a5 x6).toInt64)), (5, .int a5), (6, .int (x6 + 1))]) (List.forall_mem_cons.mpr ⟨List.mem_of_getElem? (i := 2) rfl, (List.forall_mem_cons.mpr ⟨List.mem_of_getElem? (i := 1) rfl, (List.forall_mem_cons.mpr ⟨List.mem_of_getElem? (i := 3) rfl, (List.forall_mem_cons.mpr ⟨List.mem_of_getElem? (i := 0) rfl, (fun _ h => absurd h List.not_mem_nil)⟩)⟩)⟩)⟩) rfl (hc _ _ (show (B_X11_mixObjects_20 s a5 x6 x3) = (true, ((x6 + 1), (D_X11_mix x3 (D_X11_ofObject s a5 x6).toInt64))) from ((if_neg c0).trans rfl)) (lt_le (Int32.not_lt.mp c0) (m := 3) (n := 3) rfl (by decide)) rfl)
noncomputable def R_X11_mixObjects_46 (s : Sg) (a3 : Int64) (a5 : Int32) : Bool × (Int32 × Int64) := (true, ((a5 + 1), a3))
theorem r_X11_mixObjects_46 (hP : WOK b w H0) {s : Sg} {a3 : Int64} {a5 : Int32} (o : Option Value) (h' : EH) (hN : (NN s ∧ UB s)) (hv : 0 ≤ (a5).toInt) (hlt : (a5).toInt < 2147483647) (hc : ∀ (t5 : Int32) (t3 : Int64), (R_X11_mixObjects_46 s a3 a5) = (true, (t5, t3)) → a5.toInt < 2147483647 → t5 = a5 + 1 → Rx sc g_X11_mixObjects 3 (fr_X11_mixObjects_5 b w t5 t3) (wd b w wl H0 s, kn) o h') (he : ∀ (t5 : Int32) (t3 : Int64), (R_X11_mixObjects_46 s a3 a5) = (false, (t5, t3)) → Rx sc g_X11_mixObjects 3 (fe_X11_mixObjects_5 b w t5 t3) (wd b w wl H0 s, kn) o h') : Rx sc g_X11_mixObjects 3 ((46, [(0, .ref b), (3, .long a3), (5, .int a5)], [])) (wd b w wl H0 s, kn) o h' := by
  show Rx sc g_X11_mixObjects 3 (46, [(0, .ref b), (3, .long a3), (5, .int a5)], []) (wd b w wl H0 s, kn) o h'
  refine rx_k 2 (5, [(5, .int (a5 + 1)), (0, .ref b), (3, .long a3)], []) (fun _ _ => rfl) ?_
  refine rx_lo am_X11_mixObjects (lo := [(0, .ref b), (3, .long a3), (5, .int (a5 + 1))]) (List.forall_mem_cons.mpr ⟨List.mem_of_getElem? (i := 1) rfl, (List.forall_mem_cons.mpr ⟨List.mem_of_getElem? (i := 2) rfl, (List.forall_mem_cons.mpr ⟨List.mem_of_getElem? (i := 0) rfl, (fun _ h => absurd h List.not_mem_nil)⟩)⟩)⟩) rfl (hc _ _ (show (R_X11_mixObjects_46 s a3 a5) = (true, ((a5 + 1), a3)) from rfl) hlt rfl)
noncomputable def B_X11_mixObjects_5 (s : Sg) (x5 : Int32) (x3 : Int64) : Bool × (Int32 × Int64) := (if (D_X6_count s) ≤ x5 then (false, (x5, x3)) else (R_X11_mixObjects_46 s ((itr (uc2 (B_X11_mixObjects_20 s x5)) BIG (0, x3)).2) x5))
theorem b_X11_mixObjects_5 (hP : WOK b w H0) {s : Sg} {x5 : Int32} {x3 : Int64} (o : Option Value) (h' : EH) (hN : (NN s ∧ UB s)) (hv : 0 ≤ x5.toInt) (hc : ∀ (t5 : Int32) (t3 : Int64), (B_X11_mixObjects_5 s x5 x3) = (true, (t5, t3)) → x5.toInt < 2147483647 → t5 = x5 + 1 → Rx sc g_X11_mixObjects 3 (fr_X11_mixObjects_5 b w t5 t3) (wd b w wl H0 s, kn) o h') (he : ∀ (t5 : Int32) (t3 : Int64), (B_X11_mixObjects_5 s x5 x3) = (false, (t5, t3)) → Rx sc g_X11_mixObjects 3 (fe_X11_mixObjects_5 b w t5 t3) (wd b w wl H0 s, kn) o h') : Rx sc g_X11_mixObjects 3 (fr_X11_mixObjects_5 b w x5 x3) (wd b w wl H0 s, kn) o h' := by
  show Rx sc g_X11_mixObjects 3 (5, [(0, .ref b), (3, .long x3), (5, .int x5)], []) (wd b w wl H0 s, kn) o h'
  refine rx_k 2 (8, [(0, .ref b), (3, .long x3), (5, .int x5)], [.ref b, .int x5]) (fun _ _ => rfl) ?_
  refine rx_getf rfl rfl (wg_0 hP) rfl ?_
  refine rx_inv rfl rfl (rc_X6_count hP) rfl rfl rfl (q_recv (wg_1 hP)) rfl rfl ?_
  by_cases c0 : (D_X6_count s) ≤ x5
  · refine rx_icT rfl (bt c0) ?_
    exact rx_lo am_X11_mixObjects (lo := [(3, .long x3)]) (List.forall_mem_cons.mpr ⟨List.mem_of_getElem? (i := 1) rfl, (fun _ h => absurd h List.not_mem_nil)⟩) rfl (he _ _ (show (B_X11_mixObjects_5 s x5 x3) = (false, (x5, x3)) from ((if_pos c0).trans rfl)))
  · refine rx_icF rfl (bf c0) rfl ?_
    refine rx_k 2 (20, [(6, .int 0), (0, .ref b), (3, .long x3), (5, .int x5)], []) (fun _ _ => rfl) ?_
    refine rx_lo am_X11_mixObjects (lo := [(0, .ref b), (3, .long x3), (5, .int x5), (6, .int 0)]) (List.forall_mem_cons.mpr ⟨List.mem_of_getElem? (i := 1) rfl, (List.forall_mem_cons.mpr ⟨List.mem_of_getElem? (i := 2) rfl, (List.forall_mem_cons.mpr ⟨List.mem_of_getElem? (i := 3) rfl, (List.forall_mem_cons.mpr ⟨List.mem_of_getElem? (i := 0) rfl, (fun _ h => absurd h List.not_mem_nil)⟩)⟩)⟩)⟩) rfl ?_
    refine rx_loop2p (B := B_X11_mixObjects_20 s x5) (fr := (fr_X11_mixObjects_20 b w x5)) (E := (fe_X11_mixObjects_20 b w x5)) (hp := (wd b w wl H0 s, kn)) (fun z6 z3 oo hh9 hI9 hv9 hc9 he9 => b_X11_mixObjects_20 hP c0 hv oo hh9 hN hv9 hc9 he9)  BIG 0 x3 _ _  (by decide : (0 : Int) ≤ (0 : Int32).toInt) (le_enough (by decide : (0 : Int) ≤ (0 : Int32).toInt)) ?_
    have e9 := (show (B_X11_mixObjects_5 s x5 x3) = (R_X11_mixObjects_46 s ((itr (uc2 (B_X11_mixObjects_20 s x5)) BIG (0, x3)).2) x5) from ((if_neg c0).trans rfl))
    exact r_X11_mixObjects_46 hP o h' hN hv (lt_nle c0) (fun t5 t3 e8 l8 v8 => hc t5 t3 (e9.trans e8) l8 v8) (fun t5 t3 e8 => he t5 t3 (e9.trans e8))
noncomputable def R_X11_mixObjects_52 (s : Sg) (a3 : Int64) : Int64 := a3
theorem r_X11_mixObjects_52 (hP : WOK b w H0) {s : Sg} {a3 : Int64} (hN : (NN s ∧ UB s)) : Rx sc g_X11_mixObjects 3 ((52, [(3, .long a3)], [])) (wd b w wl H0 s, kn) (some (.long (R_X11_mixObjects_52 s a3))) (wd b w wl H0 s, kn) := by
  show Rx sc g_X11_mixObjects 3 (52, [(3, .long a3)], []) (wd b w wl H0 s, kn) (some (.long (R_X11_mixObjects_52 s a3))) (wd b w wl H0 s, kn)
  refine rx_k 1 (53, [(3, .long a3)], [.long a3]) (fun _ _ => rfl) ?_
  rw [(show (R_X11_mixObjects_52 s a3) = a3 from rfl)]
  exact rx_rl rfl
noncomputable def D_X11_mixObjects (s : Sg) (a1 : Int64) : Int64 := (R_X11_mixObjects_52 s ((itr (uc2 (B_X11_mixObjects_5 s)) BIG (0, a1)).2))
theorem m_X11_mixObjects (hP : WOK b w H0) {s : Sg} {a1 : Int64} (hN : (NN s ∧ UB s)) : Rx sc g_X11_mixObjects 3 ((0, [(0, .ref b), (1, .long a1)], [])) (wd b w wl H0 s, kn) (some (.long (D_X11_mixObjects s a1))) (wd b w wl H0 s, kn) := by
  show Rx sc g_X11_mixObjects 3 (0, [(0, .ref b), (1, .long a1)], []) (wd b w wl H0 s, kn) (some (.long (D_X11_mixObjects s a1))) (wd b w wl H0 s, kn)
  refine rx_k 4 (5, [(5, .int 0), (3, .long a1), (0, .ref b), (1, .long a1)], []) (fun _ _ => rfl) ?_
  refine rx_lo am_X11_mixObjects (lo := [(0, .ref b), (3, .long a1), (5, .int 0)]) (List.forall_mem_cons.mpr ⟨List.mem_of_getElem? (i := 2) rfl, (List.forall_mem_cons.mpr ⟨List.mem_of_getElem? (i := 1) rfl, (List.forall_mem_cons.mpr ⟨List.mem_of_getElem? (i := 0) rfl, (fun _ h => absurd h List.not_mem_nil)⟩)⟩)⟩) rfl ?_
  refine rx_loop2p (B := B_X11_mixObjects_5 s) (fr := (fr_X11_mixObjects_5 b w)) (E := (fe_X11_mixObjects_5 b w)) (hp := (wd b w wl H0 s, kn)) (fun z5 z3 oo hh9 hI9 hv9 hc9 he9 => b_X11_mixObjects_5 hP oo hh9 hN hv9 hc9 he9)  BIG 0 a1 _ _  (by decide : (0 : Int) ≤ (0 : Int32).toInt) (le_enough (by decide : (0 : Int) ≤ (0 : Int32).toInt)) ?_
  rw [(show (D_X11_mixObjects s a1) = (R_X11_mixObjects_52 s ((itr (uc2 (B_X11_mixObjects_5 s)) BIG (0, a1)).2)) from rfl)]
  exact r_X11_mixObjects_52 hP hN
theorem rc_X11_mixObjects (hP : WOK b w H0) {s : Sg} {a1 : Int64} (hN : (NN s ∧ UB s)) : Rc sc 4 186 [.ref b, .long a1] (wd b w wl H0 s, kn) (some (.long (D_X11_mixObjects s a1))) (wd b w wl H0 s, kn) := rx_mc (m_X11_mixObjects hP hN) rfl rfl (Nat.ble_eq_true_of_le (Nat.le_refl _)) (Nat.ble_eq_true_of_le (Nat.le_refl _))
-- LinkHarbour.mixSections
def fr_X11_mixSections_5 (b w : Nat) (x5 : Int32) (x3 : Int64) : EF := (5, [(0, .ref b), (3, .long x3), (5, .int x5)], [])
def fe_X11_mixSections_5 (b w : Nat) (x5 : Int32) (x3 : Int64) : EF := (53, [(3, .long x3)], [])
def fr_X11_mixSections_20 (b w : Nat) (a5 : Int32) (x6 : Int32) (x3 : Int64) : EF := (20, [(0, .ref b), (3, .long x3), (5, .int a5), (6, .int x6)], [])
def fe_X11_mixSections_20 (b w : Nat) (a5 : Int32) (x6 : Int32) (x3 : Int64) : EF := (47, [(0, .ref b), (3, .long x3), (5, .int a5)], [])
noncomputable def B_X11_mixSections_20 (s : Sg) (a5 : Int32) (x6 : Int32) (x3 : Int64) : Bool × (Int32 × Int64) := (if 6 < x6 then (false, (x6, x3)) else (true, ((x6 + 1), (D_X11_mix x3 (D_X11_ofSection s a5 x6).toInt64))))
theorem b_X11_mixSections_20 (hP : WOK b w H0) {s : Sg} {a5 : Int32} {x6 : Int32} {x3 : Int64} (k0 : ¬ (D_X8_count s) ≤ a5) (n0 : 0 ≤ a5.toInt) (o : Option Value) (h' : EH) (hN : (NN s ∧ UB s)) (hv : 0 ≤ x6.toInt) (hc : ∀ (t6 : Int32) (t3 : Int64), (B_X11_mixSections_20 s a5 x6 x3) = (true, (t6, t3)) → x6.toInt < 2147483647 → t6 = x6 + 1 → Rx sc g_X11_mixSections 4 (fr_X11_mixSections_20 b w a5 t6 t3) (wd b w wl H0 s, kn) o h') (he : ∀ (t6 : Int32) (t3 : Int64), (B_X11_mixSections_20 s a5 x6 x3) = (false, (t6, t3)) → Rx sc g_X11_mixSections 4 (fe_X11_mixSections_20 b w a5 t6 t3) (wd b w wl H0 s, kn) o h') : Rx sc g_X11_mixSections 4 (fr_X11_mixSections_20 b w a5 x6 x3) (wd b w wl H0 s, kn) o h' := by
  show Rx sc g_X11_mixSections 4 (20, [(0, .ref b), (3, .long x3), (5, .int a5), (6, .int x6)], []) (wd b w wl H0 s, kn) o h'
  refine rx_k 2 (24, [(0, .ref b), (3, .long x3), (5, .int a5), (6, .int x6)], [.int 6, .int x6]) (fun _ _ => rfl) ?_
  by_cases c0 : 6 < x6
  · refine rx_icT rfl (bt c0) ?_
    exact rx_lo am_X11_mixSections (lo := [(0, .ref b), (3, .long x3), (5, .int a5)]) (List.forall_mem_cons.mpr ⟨List.mem_of_getElem? (i := 0) rfl, (List.forall_mem_cons.mpr ⟨List.mem_of_getElem? (i := 1) rfl, (List.forall_mem_cons.mpr ⟨List.mem_of_getElem? (i := 2) rfl, (fun _ h => absurd h List.not_mem_nil)⟩)⟩)⟩) rfl (he _ _ (show (B_X11_mixSections_20 s a5 x6 x3) = (false, (x6, x3)) from ((if_pos c0).trans rfl)))
  · refine rx_icF rfl (bf c0) rfl ?_
    refine rx_k 4 (33, [(0, .ref b), (3, .long x3), (5, .int a5), (6, .int x6)], [.int x6, .int a5, .ref b, .long x3]) (fun _ _ => rfl) ?_
    refine rx_inv rfl rfl (rc_X11_ofSection hP (tq_ofSection (has_8 n0 k0 hN.2.2.1) (rg_e hv (Int32.not_lt.mp c0) (m := 6) (n := 7) rfl))) rfl rfl rfl (q_recv (wg_0 hP)) rfl rfl ?_
    refine rx_k 1 (37, [(0, .ref b), (3, .long x3), (5, .int a5), (6, .int x6)], [.long (D_X11_ofSection s a5 x6).toInt64, .long x3]) (fun _ _ => rfl) ?_
    refine rx_inv rfl rfl (rc_X11_mix) rfl rfl rfl rfl rfl rfl ?_
    refine rx_k 3 (20, [(6, .int (x6 + 1)), (3, .long (D_X11_mix x3 (D_X11_ofSection s a5 x6).toInt64)), (0, .ref b), (5, .int a5)], []) (fun _ _ => rfl) ?_
    refine rx_lo am_X11_mixSections (lo := [(0, .ref b), (3, .long (D_X11_mix x3 (D_X11_ofSection s a5 x6).toInt64)), (5, .int a5), (6, .int (x6 + 1))]) (List.forall_mem_cons.mpr ⟨List.mem_of_getElem? (i := 2) rfl, (List.forall_mem_cons.mpr ⟨List.mem_of_getElem? (i := 1) rfl, (List.forall_mem_cons.mpr ⟨List.mem_of_getElem? (i := 3) rfl, (List.forall_mem_cons.mpr ⟨List.mem_of_getElem? (i := 0) rfl, (fun _ h => absurd h List.not_mem_nil)⟩)⟩)⟩)⟩) rfl (hc _ _ (show (B_X11_mixSections_20 s a5 x6 x3) = (true, ((x6 + 1), (D_X11_mix x3 (D_X11_ofSection s a5 x6).toInt64))) from ((if_neg c0).trans rfl)) (lt_le (Int32.not_lt.mp c0) (m := 6) (n := 6) rfl (by decide)) rfl)
noncomputable def R_X11_mixSections_47 (s : Sg) (a3 : Int64) (a5 : Int32) : Bool × (Int32 × Int64) := (true, ((a5 + 1), a3))
theorem r_X11_mixSections_47 (hP : WOK b w H0) {s : Sg} {a3 : Int64} {a5 : Int32} (o : Option Value) (h' : EH) (hN : (NN s ∧ UB s)) (hv : 0 ≤ (a5).toInt) (hlt : (a5).toInt < 2147483647) (hc : ∀ (t5 : Int32) (t3 : Int64), (R_X11_mixSections_47 s a3 a5) = (true, (t5, t3)) → a5.toInt < 2147483647 → t5 = a5 + 1 → Rx sc g_X11_mixSections 4 (fr_X11_mixSections_5 b w t5 t3) (wd b w wl H0 s, kn) o h') (he : ∀ (t5 : Int32) (t3 : Int64), (R_X11_mixSections_47 s a3 a5) = (false, (t5, t3)) → Rx sc g_X11_mixSections 4 (fe_X11_mixSections_5 b w t5 t3) (wd b w wl H0 s, kn) o h') : Rx sc g_X11_mixSections 4 ((47, [(0, .ref b), (3, .long a3), (5, .int a5)], [])) (wd b w wl H0 s, kn) o h' := by
  show Rx sc g_X11_mixSections 4 (47, [(0, .ref b), (3, .long a3), (5, .int a5)], []) (wd b w wl H0 s, kn) o h'
  refine rx_k 2 (5, [(5, .int (a5 + 1)), (0, .ref b), (3, .long a3)], []) (fun _ _ => rfl) ?_
  refine rx_lo am_X11_mixSections (lo := [(0, .ref b), (3, .long a3), (5, .int (a5 + 1))]) (List.forall_mem_cons.mpr ⟨List.mem_of_getElem? (i := 1) rfl, (List.forall_mem_cons.mpr ⟨List.mem_of_getElem? (i := 2) rfl, (List.forall_mem_cons.mpr ⟨List.mem_of_getElem? (i := 0) rfl, (fun _ h => absurd h List.not_mem_nil)⟩)⟩)⟩) rfl (hc _ _ (show (R_X11_mixSections_47 s a3 a5) = (true, ((a5 + 1), a3)) from rfl) hlt rfl)
noncomputable def B_X11_mixSections_5 (s : Sg) (x5 : Int32) (x3 : Int64) : Bool × (Int32 × Int64) := (if (D_X8_count s) ≤ x5 then (false, (x5, x3)) else (R_X11_mixSections_47 s ((itr (uc2 (B_X11_mixSections_20 s x5)) BIG (0, x3)).2) x5))
theorem b_X11_mixSections_5 (hP : WOK b w H0) {s : Sg} {x5 : Int32} {x3 : Int64} (o : Option Value) (h' : EH) (hN : (NN s ∧ UB s)) (hv : 0 ≤ x5.toInt) (hc : ∀ (t5 : Int32) (t3 : Int64), (B_X11_mixSections_5 s x5 x3) = (true, (t5, t3)) → x5.toInt < 2147483647 → t5 = x5 + 1 → Rx sc g_X11_mixSections 4 (fr_X11_mixSections_5 b w t5 t3) (wd b w wl H0 s, kn) o h') (he : ∀ (t5 : Int32) (t3 : Int64), (B_X11_mixSections_5 s x5 x3) = (false, (t5, t3)) → Rx sc g_X11_mixSections 4 (fe_X11_mixSections_5 b w t5 t3) (wd b w wl H0 s, kn) o h') : Rx sc g_X11_mixSections 4 (fr_X11_mixSections_5 b w x5 x3) (wd b w wl H0 s, kn) o h' := by
  show Rx sc g_X11_mixSections 4 (5, [(0, .ref b), (3, .long x3), (5, .int x5)], []) (wd b w wl H0 s, kn) o h'
  refine rx_k 2 (8, [(0, .ref b), (3, .long x3), (5, .int x5)], [.ref b, .int x5]) (fun _ _ => rfl) ?_
  refine rx_getf rfl rfl (wg_0 hP) rfl ?_
  refine rx_inv rfl rfl (rc_X8_count hP) rfl rfl rfl (q_recv (wg_11 hP)) rfl rfl ?_
  by_cases c0 : (D_X8_count s) ≤ x5
  · refine rx_icT rfl (bt c0) ?_
    exact rx_lo am_X11_mixSections (lo := [(3, .long x3)]) (List.forall_mem_cons.mpr ⟨List.mem_of_getElem? (i := 1) rfl, (fun _ h => absurd h List.not_mem_nil)⟩) rfl (he _ _ (show (B_X11_mixSections_5 s x5 x3) = (false, (x5, x3)) from ((if_pos c0).trans rfl)))
  · refine rx_icF rfl (bf c0) rfl ?_
    refine rx_k 2 (20, [(6, .int 0), (0, .ref b), (3, .long x3), (5, .int x5)], []) (fun _ _ => rfl) ?_
    refine rx_lo am_X11_mixSections (lo := [(0, .ref b), (3, .long x3), (5, .int x5), (6, .int 0)]) (List.forall_mem_cons.mpr ⟨List.mem_of_getElem? (i := 1) rfl, (List.forall_mem_cons.mpr ⟨List.mem_of_getElem? (i := 2) rfl, (List.forall_mem_cons.mpr ⟨List.mem_of_getElem? (i := 3) rfl, (List.forall_mem_cons.mpr ⟨List.mem_of_getElem? (i := 0) rfl, (fun _ h => absurd h List.not_mem_nil)⟩)⟩)⟩)⟩) rfl ?_
    refine rx_loop2p (B := B_X11_mixSections_20 s x5) (fr := (fr_X11_mixSections_20 b w x5)) (E := (fe_X11_mixSections_20 b w x5)) (hp := (wd b w wl H0 s, kn)) (fun z6 z3 oo hh9 hI9 hv9 hc9 he9 => b_X11_mixSections_20 hP c0 hv oo hh9 hN hv9 hc9 he9)  BIG 0 x3 _ _  (by decide : (0 : Int) ≤ (0 : Int32).toInt) (le_enough (by decide : (0 : Int) ≤ (0 : Int32).toInt)) ?_
    have e9 := (show (B_X11_mixSections_5 s x5 x3) = (R_X11_mixSections_47 s ((itr (uc2 (B_X11_mixSections_20 s x5)) BIG (0, x3)).2) x5) from ((if_neg c0).trans rfl))
    exact r_X11_mixSections_47 hP o h' hN hv (lt_nle c0) (fun t5 t3 e8 l8 v8 => hc t5 t3 (e9.trans e8) l8 v8) (fun t5 t3 e8 => he t5 t3 (e9.trans e8))
noncomputable def R_X11_mixSections_53 (s : Sg) (a3 : Int64) : Int64 := a3
theorem r_X11_mixSections_53 (hP : WOK b w H0) {s : Sg} {a3 : Int64} (hN : (NN s ∧ UB s)) : Rx sc g_X11_mixSections 4 ((53, [(3, .long a3)], [])) (wd b w wl H0 s, kn) (some (.long (R_X11_mixSections_53 s a3))) (wd b w wl H0 s, kn) := by
  show Rx sc g_X11_mixSections 4 (53, [(3, .long a3)], []) (wd b w wl H0 s, kn) (some (.long (R_X11_mixSections_53 s a3))) (wd b w wl H0 s, kn)
  refine rx_k 1 (54, [(3, .long a3)], [.long a3]) (fun _ _ => rfl) ?_
  rw [(show (R_X11_mixSections_53 s a3) = a3 from rfl)]
  exact rx_rl rfl
noncomputable def D_X11_mixSections (s : Sg) (a1 : Int64) : Int64 := (R_X11_mixSections_53 s ((itr (uc2 (B_X11_mixSections_5 s)) BIG (0, a1)).2))
theorem m_X11_mixSections (hP : WOK b w H0) {s : Sg} {a1 : Int64} (hN : (NN s ∧ UB s)) : Rx sc g_X11_mixSections 4 ((0, [(0, .ref b), (1, .long a1)], [])) (wd b w wl H0 s, kn) (some (.long (D_X11_mixSections s a1))) (wd b w wl H0 s, kn) := by
  show Rx sc g_X11_mixSections 4 (0, [(0, .ref b), (1, .long a1)], []) (wd b w wl H0 s, kn) (some (.long (D_X11_mixSections s a1))) (wd b w wl H0 s, kn)
  refine rx_k 4 (5, [(5, .int 0), (3, .long a1), (0, .ref b), (1, .long a1)], []) (fun _ _ => rfl) ?_
  refine rx_lo am_X11_mixSections (lo := [(0, .ref b), (3, .long a1), (5, .int 0)]) (List.forall_mem_cons.mpr ⟨List.mem_of_getElem? (i := 2) rfl, (List.forall_mem_cons.mpr ⟨List.mem_of_getElem? (i := 1) rfl, (List.forall_mem_cons.mpr ⟨List.mem_of_getElem? (i := 0) rfl, (fun _ h => absurd h List.not_mem_nil)⟩)⟩)⟩) rfl ?_
  refine rx_loop2p (B := B_X11_mixSections_5 s) (fr := (fr_X11_mixSections_5 b w)) (E := (fe_X11_mixSections_5 b w)) (hp := (wd b w wl H0 s, kn)) (fun z5 z3 oo hh9 hI9 hv9 hc9 he9 => b_X11_mixSections_5 hP oo hh9 hN hv9 hc9 he9)  BIG 0 a1 _ _  (by decide : (0 : Int) ≤ (0 : Int32).toInt) (le_enough (by decide : (0 : Int) ≤ (0 : Int32).toInt)) ?_
  rw [(show (D_X11_mixSections s a1) = (R_X11_mixSections_53 s ((itr (uc2 (B_X11_mixSections_5 s)) BIG (0, a1)).2)) from rfl)]
  exact r_X11_mixSections_53 hP hN
theorem rc_X11_mixSections (hP : WOK b w H0) {s : Sg} {a1 : Int64} (hN : (NN s ∧ UB s)) : Rc sc 5 187 [.ref b, .long a1] (wd b w wl H0 s, kn) (some (.long (D_X11_mixSections s a1))) (wd b w wl H0 s, kn) := rx_mc (m_X11_mixSections hP hN) rfl rfl (Nat.ble_eq_true_of_le (Nat.le_refl _)) (Nat.ble_eq_true_of_le (Nat.le_refl _))
-- LinkHarbour.mixNames
def fr_X11_mixNames_5 (b w : Nat) (x5 : Int32) (x3 : Int64) : EF := (5, [(0, .ref b), (3, .long x3), (5, .int x5)], [])
def fe_X11_mixNames_5 (b w : Nat) (x5 : Int32) (x3 : Int64) : EF := (47, [(3, .long x3)], [])
def fr_X11_mixNames_15 (b w : Nat) (a5 : Int32) (x6 : Int32) (x3 : Int64) : EF := (15, [(0, .ref b), (3, .long x3), (5, .int a5), (6, .int x6)], [])
def fe_X11_mixNames_15 (b w : Nat) (a5 : Int32) (x6 : Int32) (x3 : Int64) : EF := (41, [(0, .ref b), (3, .long x3), (5, .int a5)], [])
noncomputable def B_X11_mixNames_15 (s : Sg) (a5 : Int32) (x6 : Int32) (x3 : Int64) : Bool × (Int32 × Int64) := (if 4 < x6 then (false, (x6, x3)) else (true, ((x6 + 1), (D_X11_mix x3 (D_X11_ofName s a5 x6).toInt64))))
theorem b_X11_mixNames_15 (hP : WOK b w H0) {s : Sg} {a5 : Int32} {x6 : Int32} {x3 : Int64} (h5 : rg a5 20) (k0 : ¬ 20 ≤ a5) (n0 : 0 ≤ a5.toInt) (o : Option Value) (h' : EH) (hN : (NN s ∧ UB s)) (hv : 0 ≤ x6.toInt) (hc : ∀ (t6 : Int32) (t3 : Int64), (B_X11_mixNames_15 s a5 x6 x3) = (true, (t6, t3)) → x6.toInt < 2147483647 → t6 = x6 + 1 → Rx sc g_X11_mixNames 3 (fr_X11_mixNames_15 b w a5 t6 t3) (wd b w wl H0 s, kn) o h') (he : ∀ (t6 : Int32) (t3 : Int64), (B_X11_mixNames_15 s a5 x6 x3) = (false, (t6, t3)) → Rx sc g_X11_mixNames 3 (fe_X11_mixNames_15 b w a5 t6 t3) (wd b w wl H0 s, kn) o h') : Rx sc g_X11_mixNames 3 (fr_X11_mixNames_15 b w a5 x6 x3) (wd b w wl H0 s, kn) o h' := by
  show Rx sc g_X11_mixNames 3 (15, [(0, .ref b), (3, .long x3), (5, .int a5), (6, .int x6)], []) (wd b w wl H0 s, kn) o h'
  refine rx_k 2 (18, [(0, .ref b), (3, .long x3), (5, .int a5), (6, .int x6)], [.int 4, .int x6]) (fun _ _ => rfl) ?_
  by_cases c0 : 4 < x6
  · refine rx_icT rfl (bt c0) ?_
    exact rx_lo am_X11_mixNames (lo := [(0, .ref b), (3, .long x3), (5, .int a5)]) (List.forall_mem_cons.mpr ⟨List.mem_of_getElem? (i := 0) rfl, (List.forall_mem_cons.mpr ⟨List.mem_of_getElem? (i := 1) rfl, (List.forall_mem_cons.mpr ⟨List.mem_of_getElem? (i := 2) rfl, (fun _ h => absurd h List.not_mem_nil)⟩)⟩)⟩) rfl (he _ _ (show (B_X11_mixNames_15 s a5 x6 x3) = (false, (x6, x3)) from ((if_pos c0).trans rfl)))
  · refine rx_icF rfl (bf c0) rfl ?_
    refine rx_k 4 (27, [(0, .ref b), (3, .long x3), (5, .int a5), (6, .int x6)], [.int x6, .int a5, .ref b, .long x3]) (fun _ _ => rfl) ?_
    refine rx_inv rfl rfl (rc_X11_ofName hP (tq_ofName h5 (rg_e hv (Int32.not_lt.mp c0) (m := 4) (n := 5) rfl))) rfl rfl rfl (q_recv (wg_0 hP)) rfl rfl ?_
    refine rx_k 1 (31, [(0, .ref b), (3, .long x3), (5, .int a5), (6, .int x6)], [.long (D_X11_ofName s a5 x6).toInt64, .long x3]) (fun _ _ => rfl) ?_
    refine rx_inv rfl rfl (rc_X11_mix) rfl rfl rfl rfl rfl rfl ?_
    refine rx_k 3 (15, [(6, .int (x6 + 1)), (3, .long (D_X11_mix x3 (D_X11_ofName s a5 x6).toInt64)), (0, .ref b), (5, .int a5)], []) (fun _ _ => rfl) ?_
    refine rx_lo am_X11_mixNames (lo := [(0, .ref b), (3, .long (D_X11_mix x3 (D_X11_ofName s a5 x6).toInt64)), (5, .int a5), (6, .int (x6 + 1))]) (List.forall_mem_cons.mpr ⟨List.mem_of_getElem? (i := 2) rfl, (List.forall_mem_cons.mpr ⟨List.mem_of_getElem? (i := 1) rfl, (List.forall_mem_cons.mpr ⟨List.mem_of_getElem? (i := 3) rfl, (List.forall_mem_cons.mpr ⟨List.mem_of_getElem? (i := 0) rfl, (fun _ h => absurd h List.not_mem_nil)⟩)⟩)⟩)⟩) rfl (hc _ _ (show (B_X11_mixNames_15 s a5 x6 x3) = (true, ((x6 + 1), (D_X11_mix x3 (D_X11_ofName s a5 x6).toInt64))) from ((if_neg c0).trans rfl)) (lt_le (Int32.not_lt.mp c0) (m := 4) (n := 4) rfl (by decide)) rfl)
noncomputable def R_X11_mixNames_41 (s : Sg) (a3 : Int64) (a5 : Int32) : Bool × (Int32 × Int64) := (true, ((a5 + 1), a3))
theorem r_X11_mixNames_41 (hP : WOK b w H0) {s : Sg} {a3 : Int64} {a5 : Int32} (h5 : rg a5 20) (o : Option Value) (h' : EH) (hN : (NN s ∧ UB s)) (hv : 0 ≤ (a5).toInt) (hlt : (a5).toInt < 2147483647) (hc : ∀ (t5 : Int32) (t3 : Int64), (R_X11_mixNames_41 s a3 a5) = (true, (t5, t3)) → a5.toInt < 2147483647 → t5 = a5 + 1 → Rx sc g_X11_mixNames 3 (fr_X11_mixNames_5 b w t5 t3) (wd b w wl H0 s, kn) o h') (he : ∀ (t5 : Int32) (t3 : Int64), (R_X11_mixNames_41 s a3 a5) = (false, (t5, t3)) → Rx sc g_X11_mixNames 3 (fe_X11_mixNames_5 b w t5 t3) (wd b w wl H0 s, kn) o h') : Rx sc g_X11_mixNames 3 ((41, [(0, .ref b), (3, .long a3), (5, .int a5)], [])) (wd b w wl H0 s, kn) o h' := by
  show Rx sc g_X11_mixNames 3 (41, [(0, .ref b), (3, .long a3), (5, .int a5)], []) (wd b w wl H0 s, kn) o h'
  refine rx_k 2 (5, [(5, .int (a5 + 1)), (0, .ref b), (3, .long a3)], []) (fun _ _ => rfl) ?_
  refine rx_lo am_X11_mixNames (lo := [(0, .ref b), (3, .long a3), (5, .int (a5 + 1))]) (List.forall_mem_cons.mpr ⟨List.mem_of_getElem? (i := 1) rfl, (List.forall_mem_cons.mpr ⟨List.mem_of_getElem? (i := 2) rfl, (List.forall_mem_cons.mpr ⟨List.mem_of_getElem? (i := 0) rfl, (fun _ h => absurd h List.not_mem_nil)⟩)⟩)⟩) rfl (hc _ _ (show (R_X11_mixNames_41 s a3 a5) = (true, ((a5 + 1), a3)) from rfl) hlt rfl)
noncomputable def B_X11_mixNames_5 (s : Sg) (x5 : Int32) (x3 : Int64) : Bool × (Int32 × Int64) := (if 20 ≤ x5 then (false, (x5, x3)) else (R_X11_mixNames_41 s ((itr (uc2 (B_X11_mixNames_15 s x5)) BIG (0, x3)).2) x5))
theorem b_X11_mixNames_5 (hP : WOK b w H0) {s : Sg} {x5 : Int32} {x3 : Int64} (o : Option Value) (h' : EH) (hN : (NN s ∧ UB s)) (hv : 0 ≤ x5.toInt) (hc : ∀ (t5 : Int32) (t3 : Int64), (B_X11_mixNames_5 s x5 x3) = (true, (t5, t3)) → x5.toInt < 2147483647 → t5 = x5 + 1 → Rx sc g_X11_mixNames 3 (fr_X11_mixNames_5 b w t5 t3) (wd b w wl H0 s, kn) o h') (he : ∀ (t5 : Int32) (t3 : Int64), (B_X11_mixNames_5 s x5 x3) = (false, (t5, t3)) → Rx sc g_X11_mixNames 3 (fe_X11_mixNames_5 b w t5 t3) (wd b w wl H0 s, kn) o h') : Rx sc g_X11_mixNames 3 (fr_X11_mixNames_5 b w x5 x3) (wd b w wl H0 s, kn) o h' := by
  show Rx sc g_X11_mixNames 3 (5, [(0, .ref b), (3, .long x3), (5, .int x5)], []) (wd b w wl H0 s, kn) o h'
  refine rx_k 2 (9, [(0, .ref b), (3, .long x3), (5, .int x5)], [.int 20, .int x5]) (fun _ _ => rfl) ?_
  by_cases c0 : 20 ≤ x5
  · refine rx_icT rfl (bt c0) ?_
    exact rx_lo am_X11_mixNames (lo := [(3, .long x3)]) (List.forall_mem_cons.mpr ⟨List.mem_of_getElem? (i := 1) rfl, (fun _ h => absurd h List.not_mem_nil)⟩) rfl (he _ _ (show (B_X11_mixNames_5 s x5 x3) = (false, (x5, x3)) from ((if_pos c0).trans rfl)))
  · refine rx_icF rfl (bf c0) rfl ?_
    refine rx_k 2 (15, [(6, .int 0), (0, .ref b), (3, .long x3), (5, .int x5)], []) (fun _ _ => rfl) ?_
    refine rx_lo am_X11_mixNames (lo := [(0, .ref b), (3, .long x3), (5, .int x5), (6, .int 0)]) (List.forall_mem_cons.mpr ⟨List.mem_of_getElem? (i := 1) rfl, (List.forall_mem_cons.mpr ⟨List.mem_of_getElem? (i := 2) rfl, (List.forall_mem_cons.mpr ⟨List.mem_of_getElem? (i := 3) rfl, (List.forall_mem_cons.mpr ⟨List.mem_of_getElem? (i := 0) rfl, (fun _ h => absurd h List.not_mem_nil)⟩)⟩)⟩)⟩) rfl ?_
    refine rx_loop2p (B := B_X11_mixNames_15 s x5) (fr := (fr_X11_mixNames_15 b w x5)) (E := (fe_X11_mixNames_15 b w x5)) (hp := (wd b w wl H0 s, kn)) (fun z6 z3 oo hh9 hI9 hv9 hc9 he9 => b_X11_mixNames_15 hP (rg_c hv c0 (m := 20) (n := 20) rfl) c0 (rg_c hv c0 (m := 20) (n := 20) rfl).1 oo hh9 hN hv9 hc9 he9)  BIG 0 x3 _ _  (by decide : (0 : Int) ≤ (0 : Int32).toInt) (le_enough (by decide : (0 : Int) ≤ (0 : Int32).toInt)) ?_
    have e9 := (show (B_X11_mixNames_5 s x5 x3) = (R_X11_mixNames_41 s ((itr (uc2 (B_X11_mixNames_15 s x5)) BIG (0, x3)).2) x5) from ((if_neg c0).trans rfl))
    exact r_X11_mixNames_41 hP (rg_c hv c0 (m := 20) (n := 20) rfl) o h' hN (rg_c hv c0 (m := 20) (n := 20) rfl).1 (lt_nle c0) (fun t5 t3 e8 l8 v8 => hc t5 t3 (e9.trans e8) l8 v8) (fun t5 t3 e8 => he t5 t3 (e9.trans e8))
noncomputable def R_X11_mixNames_47 (s : Sg) (a3 : Int64) : Int64 := a3
theorem r_X11_mixNames_47 (hP : WOK b w H0) {s : Sg} {a3 : Int64} (hN : (NN s ∧ UB s)) : Rx sc g_X11_mixNames 3 ((47, [(3, .long a3)], [])) (wd b w wl H0 s, kn) (some (.long (R_X11_mixNames_47 s a3))) (wd b w wl H0 s, kn) := by
  show Rx sc g_X11_mixNames 3 (47, [(3, .long a3)], []) (wd b w wl H0 s, kn) (some (.long (R_X11_mixNames_47 s a3))) (wd b w wl H0 s, kn)
  refine rx_k 1 (48, [(3, .long a3)], [.long a3]) (fun _ _ => rfl) ?_
  rw [(show (R_X11_mixNames_47 s a3) = a3 from rfl)]
  exact rx_rl rfl
noncomputable def D_X11_mixNames (s : Sg) (a1 : Int64) : Int64 := (R_X11_mixNames_47 s ((itr (uc2 (B_X11_mixNames_5 s)) BIG (0, a1)).2))
theorem m_X11_mixNames (hP : WOK b w H0) {s : Sg} {a1 : Int64} (hN : (NN s ∧ UB s)) : Rx sc g_X11_mixNames 3 ((0, [(0, .ref b), (1, .long a1)], [])) (wd b w wl H0 s, kn) (some (.long (D_X11_mixNames s a1))) (wd b w wl H0 s, kn) := by
  show Rx sc g_X11_mixNames 3 (0, [(0, .ref b), (1, .long a1)], []) (wd b w wl H0 s, kn) (some (.long (D_X11_mixNames s a1))) (wd b w wl H0 s, kn)
  refine rx_k 4 (5, [(5, .int 0), (3, .long a1), (0, .ref b), (1, .long a1)], []) (fun _ _ => rfl) ?_
  refine rx_lo am_X11_mixNames (lo := [(0, .ref b), (3, .long a1), (5, .int 0)]) (List.forall_mem_cons.mpr ⟨List.mem_of_getElem? (i := 2) rfl, (List.forall_mem_cons.mpr ⟨List.mem_of_getElem? (i := 1) rfl, (List.forall_mem_cons.mpr ⟨List.mem_of_getElem? (i := 0) rfl, (fun _ h => absurd h List.not_mem_nil)⟩)⟩)⟩) rfl ?_
  refine rx_loop2p (B := B_X11_mixNames_5 s) (fr := (fr_X11_mixNames_5 b w)) (E := (fe_X11_mixNames_5 b w)) (hp := (wd b w wl H0 s, kn)) (fun z5 z3 oo hh9 hI9 hv9 hc9 he9 => b_X11_mixNames_5 hP oo hh9 hN hv9 hc9 he9)  BIG 0 a1 _ _  (by decide : (0 : Int) ≤ (0 : Int32).toInt) (le_enough (by decide : (0 : Int) ≤ (0 : Int32).toInt)) ?_
  rw [(show (D_X11_mixNames s a1) = (R_X11_mixNames_47 s ((itr (uc2 (B_X11_mixNames_5 s)) BIG (0, a1)).2)) from rfl)]
  exact r_X11_mixNames_47 hP hN
theorem rc_X11_mixNames (hP : WOK b w H0) {s : Sg} {a1 : Int64} (hN : (NN s ∧ UB s)) : Rc sc 4 188 [.ref b, .long a1] (wd b w wl H0 s, kn) (some (.long (D_X11_mixNames s a1))) (wd b w wl H0 s, kn) := rx_mc (m_X11_mixNames hP hN) rfl rfl (Nat.ble_eq_true_of_le (Nat.le_refl _)) (Nat.ble_eq_true_of_le (Nat.le_refl _))
-- LinkHarbour.mixFaults
def fr_X11_mixFaults_5 (b w : Nat) (x5 : Int32) (x3 : Int64) : EF := (5, [(0, .ref b), (3, .long x3), (5, .int x5)], [])
def fe_X11_mixFaults_5 (b w : Nat) (x5 : Int32) (x3 : Int64) : EF := (55, [(3, .long x3)], [])
def fr_X11_mixFaults_23 (b w : Nat) (a5 : Int32) (x6 : Int32) (x3 : Int64) : EF := (23, [(0, .ref b), (3, .long x3), (5, .int a5), (6, .int x6)], [])
def fe_X11_mixFaults_23 (b w : Nat) (a5 : Int32) (x6 : Int32) (x3 : Int64) : EF := (49, [(0, .ref b), (3, .long x3), (5, .int a5)], [])
noncomputable def B_X11_mixFaults_23 (s : Sg) (a5 : Int32) (x6 : Int32) (x3 : Int64) : Bool × (Int32 × Int64) := (if 4 ≤ x6 then (false, (x6, x3)) else (true, ((x6 + 1), (D_X11_mix x3 (D_X11_fault s a5 x6).toInt64))))
theorem b_X11_mixFaults_23 (hP : WOK b w H0) {s : Sg} {a5 : Int32} {x6 : Int32} {x3 : Int64} (k0 : ¬ (D_X0_count 38 s) ≤ a5) (n0 : 0 ≤ a5.toInt) (o : Option Value) (h' : EH) (hN : (NN s ∧ UB s)) (hv : 0 ≤ x6.toInt) (hc : ∀ (t6 : Int32) (t3 : Int64), (B_X11_mixFaults_23 s a5 x6 x3) = (true, (t6, t3)) → x6.toInt < 2147483647 → t6 = x6 + 1 → Rx sc g_X11_mixFaults 3 (fr_X11_mixFaults_23 b w a5 t6 t3) (wd b w wl H0 s, kn) o h') (he : ∀ (t6 : Int32) (t3 : Int64), (B_X11_mixFaults_23 s a5 x6 x3) = (false, (t6, t3)) → Rx sc g_X11_mixFaults 3 (fe_X11_mixFaults_23 b w a5 t6 t3) (wd b w wl H0 s, kn) o h') : Rx sc g_X11_mixFaults 3 (fr_X11_mixFaults_23 b w a5 x6 x3) (wd b w wl H0 s, kn) o h' := by
  show Rx sc g_X11_mixFaults 3 (23, [(0, .ref b), (3, .long x3), (5, .int a5), (6, .int x6)], []) (wd b w wl H0 s, kn) o h'
  refine rx_k 2 (26, [(0, .ref b), (3, .long x3), (5, .int a5), (6, .int x6)], [.int 4, .int x6]) (fun _ _ => rfl) ?_
  by_cases c0 : 4 ≤ x6
  · refine rx_icT rfl (bt c0) ?_
    exact rx_lo am_X11_mixFaults (lo := [(0, .ref b), (3, .long x3), (5, .int a5)]) (List.forall_mem_cons.mpr ⟨List.mem_of_getElem? (i := 0) rfl, (List.forall_mem_cons.mpr ⟨List.mem_of_getElem? (i := 1) rfl, (List.forall_mem_cons.mpr ⟨List.mem_of_getElem? (i := 2) rfl, (fun _ h => absurd h List.not_mem_nil)⟩)⟩)⟩) rfl (he _ _ (show (B_X11_mixFaults_23 s a5 x6 x3) = (false, (x6, x3)) from ((if_pos c0).trans rfl)))
  · refine rx_icF rfl (bf c0) rfl ?_
    refine rx_k 4 (35, [(0, .ref b), (3, .long x3), (5, .int a5), (6, .int x6)], [.int x6, .int a5, .ref b, .long x3]) (fun _ _ => rfl) ?_
    refine rx_inv rfl rfl (rc_X11_fault hP (tq_fault n0 k0 (rg_c hv c0 (m := 4) (n := 4) rfl))) rfl rfl rfl (q_recv (wg_0 hP)) rfl rfl ?_
    refine rx_k 1 (39, [(0, .ref b), (3, .long x3), (5, .int a5), (6, .int x6)], [.long (D_X11_fault s a5 x6).toInt64, .long x3]) (fun _ _ => rfl) ?_
    refine rx_inv rfl rfl (rc_X11_mix) rfl rfl rfl rfl rfl rfl ?_
    refine rx_k 3 (23, [(6, .int (x6 + 1)), (3, .long (D_X11_mix x3 (D_X11_fault s a5 x6).toInt64)), (0, .ref b), (5, .int a5)], []) (fun _ _ => rfl) ?_
    refine rx_lo am_X11_mixFaults (lo := [(0, .ref b), (3, .long (D_X11_mix x3 (D_X11_fault s a5 x6).toInt64)), (5, .int a5), (6, .int (x6 + 1))]) (List.forall_mem_cons.mpr ⟨List.mem_of_getElem? (i := 2) rfl, (List.forall_mem_cons.mpr ⟨List.mem_of_getElem? (i := 1) rfl, (List.forall_mem_cons.mpr ⟨List.mem_of_getElem? (i := 3) rfl, (List.forall_mem_cons.mpr ⟨List.mem_of_getElem? (i := 0) rfl, (fun _ h => absurd h List.not_mem_nil)⟩)⟩)⟩)⟩) rfl (hc _ _ (show (B_X11_mixFaults_23 s a5 x6 x3) = (true, ((x6 + 1), (D_X11_mix x3 (D_X11_fault s a5 x6).toInt64))) from ((if_neg c0).trans rfl)) (lt_nle c0) rfl)
noncomputable def R_X11_mixFaults_49 (s : Sg) (a3 : Int64) (a5 : Int32) : Bool × (Int32 × Int64) := (true, ((a5 + 1), a3))
theorem r_X11_mixFaults_49 (hP : WOK b w H0) {s : Sg} {a3 : Int64} {a5 : Int32} (o : Option Value) (h' : EH) (hN : (NN s ∧ UB s)) (hv : 0 ≤ (a5).toInt) (hlt : (a5).toInt < 2147483647) (hc : ∀ (t5 : Int32) (t3 : Int64), (R_X11_mixFaults_49 s a3 a5) = (true, (t5, t3)) → a5.toInt < 2147483647 → t5 = a5 + 1 → Rx sc g_X11_mixFaults 3 (fr_X11_mixFaults_5 b w t5 t3) (wd b w wl H0 s, kn) o h') (he : ∀ (t5 : Int32) (t3 : Int64), (R_X11_mixFaults_49 s a3 a5) = (false, (t5, t3)) → Rx sc g_X11_mixFaults 3 (fe_X11_mixFaults_5 b w t5 t3) (wd b w wl H0 s, kn) o h') : Rx sc g_X11_mixFaults 3 ((49, [(0, .ref b), (3, .long a3), (5, .int a5)], [])) (wd b w wl H0 s, kn) o h' := by
  show Rx sc g_X11_mixFaults 3 (49, [(0, .ref b), (3, .long a3), (5, .int a5)], []) (wd b w wl H0 s, kn) o h'
  refine rx_k 2 (5, [(5, .int (a5 + 1)), (0, .ref b), (3, .long a3)], []) (fun _ _ => rfl) ?_
  refine rx_lo am_X11_mixFaults (lo := [(0, .ref b), (3, .long a3), (5, .int (a5 + 1))]) (List.forall_mem_cons.mpr ⟨List.mem_of_getElem? (i := 1) rfl, (List.forall_mem_cons.mpr ⟨List.mem_of_getElem? (i := 2) rfl, (List.forall_mem_cons.mpr ⟨List.mem_of_getElem? (i := 0) rfl, (fun _ h => absurd h List.not_mem_nil)⟩)⟩)⟩) rfl (hc _ _ (show (R_X11_mixFaults_49 s a3 a5) = (true, ((a5 + 1), a3)) from rfl) hlt rfl)
noncomputable def B_X11_mixFaults_5 (s : Sg) (x5 : Int32) (x3 : Int64) : Bool × (Int32 × Int64) := (if (D_X0_count 38 s) ≤ x5 then (false, (x5, x3)) else (R_X11_mixFaults_49 s ((itr (uc2 (B_X11_mixFaults_23 s x5)) BIG (0, x3)).2) x5))
theorem b_X11_mixFaults_5 (hP : WOK b w H0) {s : Sg} {x5 : Int32} {x3 : Int64} (o : Option Value) (h' : EH) (hN : (NN s ∧ UB s)) (hv : 0 ≤ x5.toInt) (hc : ∀ (t5 : Int32) (t3 : Int64), (B_X11_mixFaults_5 s x5 x3) = (true, (t5, t3)) → x5.toInt < 2147483647 → t5 = x5 + 1 → Rx sc g_X11_mixFaults 3 (fr_X11_mixFaults_5 b w t5 t3) (wd b w wl H0 s, kn) o h') (he : ∀ (t5 : Int32) (t3 : Int64), (B_X11_mixFaults_5 s x5 x3) = (false, (t5, t3)) → Rx sc g_X11_mixFaults 3 (fe_X11_mixFaults_5 b w t5 t3) (wd b w wl H0 s, kn) o h') : Rx sc g_X11_mixFaults 3 (fr_X11_mixFaults_5 b w x5 x3) (wd b w wl H0 s, kn) o h' := by
  show Rx sc g_X11_mixFaults 3 (5, [(0, .ref b), (3, .long x3), (5, .int x5)], []) (wd b w wl H0 s, kn) o h'
  refine rx_k 2 (8, [(0, .ref b), (3, .long x3), (5, .int x5)], [.ref b, .int x5]) (fun _ _ => rfl) ?_
  refine rx_getf rfl rfl (wg_0 hP) rfl ?_
  refine rx_getf rfl rfl (wl_0 hP (Or.inl rfl)) rfl ?_
  refine rx_inv rfl rfl (rc_X0_count hP (Or.inl rfl)) rfl rfl rfl (q_recv (wl_1 hP (Or.inl rfl))) rfl rfl ?_
  by_cases c0 : (D_X0_count 38 s) ≤ x5
  · refine rx_icT rfl (bt c0) ?_
    exact rx_lo am_X11_mixFaults (lo := [(3, .long x3)]) (List.forall_mem_cons.mpr ⟨List.mem_of_getElem? (i := 1) rfl, (fun _ h => absurd h List.not_mem_nil)⟩) rfl (he _ _ (show (B_X11_mixFaults_5 s x5 x3) = (false, (x5, x3)) from ((if_pos c0).trans rfl)))
  · refine rx_icF rfl (bf c0) rfl ?_
    refine rx_k 2 (23, [(6, .int 0), (0, .ref b), (3, .long x3), (5, .int x5)], []) (fun _ _ => rfl) ?_
    refine rx_lo am_X11_mixFaults (lo := [(0, .ref b), (3, .long x3), (5, .int x5), (6, .int 0)]) (List.forall_mem_cons.mpr ⟨List.mem_of_getElem? (i := 1) rfl, (List.forall_mem_cons.mpr ⟨List.mem_of_getElem? (i := 2) rfl, (List.forall_mem_cons.mpr ⟨List.mem_of_getElem? (i := 3) rfl, (List.forall_mem_cons.mpr ⟨List.mem_of_getElem? (i := 0) rfl, (fun _ h => absurd h List.not_mem_nil)⟩)⟩)⟩)⟩) rfl ?_
    refine rx_loop2p (B := B_X11_mixFaults_23 s x5) (fr := (fr_X11_mixFaults_23 b w x5)) (E := (fe_X11_mixFaults_23 b w x5)) (hp := (wd b w wl H0 s, kn)) (fun z6 z3 oo hh9 hI9 hv9 hc9 he9 => b_X11_mixFaults_23 hP c0 hv oo hh9 hN hv9 hc9 he9)  BIG 0 x3 _ _  (by decide : (0 : Int) ≤ (0 : Int32).toInt) (le_enough (by decide : (0 : Int) ≤ (0 : Int32).toInt)) ?_
    have e9 := (show (B_X11_mixFaults_5 s x5 x3) = (R_X11_mixFaults_49 s ((itr (uc2 (B_X11_mixFaults_23 s x5)) BIG (0, x3)).2) x5) from ((if_neg c0).trans rfl))
    exact r_X11_mixFaults_49 hP o h' hN hv (lt_nle c0) (fun t5 t3 e8 l8 v8 => hc t5 t3 (e9.trans e8) l8 v8) (fun t5 t3 e8 => he t5 t3 (e9.trans e8))
noncomputable def R_X11_mixFaults_55 (s : Sg) (a3 : Int64) : Int64 := a3
theorem r_X11_mixFaults_55 (hP : WOK b w H0) {s : Sg} {a3 : Int64} (hN : (NN s ∧ UB s)) : Rx sc g_X11_mixFaults 3 ((55, [(3, .long a3)], [])) (wd b w wl H0 s, kn) (some (.long (R_X11_mixFaults_55 s a3))) (wd b w wl H0 s, kn) := by
  show Rx sc g_X11_mixFaults 3 (55, [(3, .long a3)], []) (wd b w wl H0 s, kn) (some (.long (R_X11_mixFaults_55 s a3))) (wd b w wl H0 s, kn)
  refine rx_k 1 (56, [(3, .long a3)], [.long a3]) (fun _ _ => rfl) ?_
  rw [(show (R_X11_mixFaults_55 s a3) = a3 from rfl)]
  exact rx_rl rfl
noncomputable def D_X11_mixFaults (s : Sg) (a1 : Int64) : Int64 := (R_X11_mixFaults_55 s ((itr (uc2 (B_X11_mixFaults_5 s)) BIG (0, a1)).2))
theorem m_X11_mixFaults (hP : WOK b w H0) {s : Sg} {a1 : Int64} (hN : (NN s ∧ UB s)) : Rx sc g_X11_mixFaults 3 ((0, [(0, .ref b), (1, .long a1)], [])) (wd b w wl H0 s, kn) (some (.long (D_X11_mixFaults s a1))) (wd b w wl H0 s, kn) := by
  show Rx sc g_X11_mixFaults 3 (0, [(0, .ref b), (1, .long a1)], []) (wd b w wl H0 s, kn) (some (.long (D_X11_mixFaults s a1))) (wd b w wl H0 s, kn)
  refine rx_k 4 (5, [(5, .int 0), (3, .long a1), (0, .ref b), (1, .long a1)], []) (fun _ _ => rfl) ?_
  refine rx_lo am_X11_mixFaults (lo := [(0, .ref b), (3, .long a1), (5, .int 0)]) (List.forall_mem_cons.mpr ⟨List.mem_of_getElem? (i := 2) rfl, (List.forall_mem_cons.mpr ⟨List.mem_of_getElem? (i := 1) rfl, (List.forall_mem_cons.mpr ⟨List.mem_of_getElem? (i := 0) rfl, (fun _ h => absurd h List.not_mem_nil)⟩)⟩)⟩) rfl ?_
  refine rx_loop2p (B := B_X11_mixFaults_5 s) (fr := (fr_X11_mixFaults_5 b w)) (E := (fe_X11_mixFaults_5 b w)) (hp := (wd b w wl H0 s, kn)) (fun z5 z3 oo hh9 hI9 hv9 hc9 he9 => b_X11_mixFaults_5 hP oo hh9 hN hv9 hc9 he9)  BIG 0 a1 _ _  (by decide : (0 : Int) ≤ (0 : Int32).toInt) (le_enough (by decide : (0 : Int) ≤ (0 : Int32).toInt)) ?_
  rw [(show (D_X11_mixFaults s a1) = (R_X11_mixFaults_55 s ((itr (uc2 (B_X11_mixFaults_5 s)) BIG (0, a1)).2)) from rfl)]
  exact r_X11_mixFaults_55 hP hN
theorem rc_X11_mixFaults (hP : WOK b w H0) {s : Sg} {a1 : Int64} (hN : (NN s ∧ UB s)) : Rc sc 4 189 [.ref b, .long a1] (wd b w wl H0 s, kn) (some (.long (D_X11_mixFaults s a1))) (wd b w wl H0 s, kn) := rx_mc (m_X11_mixFaults hP hN) rfl rfl (Nat.ble_eq_true_of_le (Nat.le_refl _)) (Nat.ble_eq_true_of_le (Nat.le_refl _))
end DD
