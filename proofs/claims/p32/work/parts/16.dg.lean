section DD
variable {sc : Nat × (Nat → Int32)} {b w wl : Nat} {H0 : List EC} {kn : Nat × Nat}
-- LinkHarbour$SectionTable.isKept
noncomputable def D_X8_isKept (s : Sg) (a1 : Int32) : Int32 := (if (D_X8_has s a1) = 0 then 0 else (if (s 14 a1.toNatClampNeg) = 0 then 0 else 1))
theorem m_X8_isKept (hP : WOK b w H0) {s : Sg} {a1 : Int32} : Rx sc g_X8_isKept 1 ((0, [(0, .ref (b + 11)), (1, .int a1)], [])) (wd b w wl H0 s, kn) (some (.int (D_X8_isKept s a1))) (wd b w wl H0 s, kn) := by
  show Rx sc g_X8_isKept 1 (0, [(0, .ref (b + 11)), (1, .int a1)], []) (wd b w wl H0 s, kn) (some (.int (D_X8_isKept s a1))) (wd b w wl H0 s, kn)
  refine rx_k 2 (2, [(0, .ref (b + 11)), (1, .int a1)], [.int a1, .ref (b + 11)]) (fun _ _ => rfl) ?_
  refine rx_inv rfl rfl (rc_X8_has hP) rfl rfl rfl (q_recv (wg_11 hP)) rfl rfl ?_
  by_cases c0 : (D_X8_has s a1) = 0
  · refine rx_ifT rfl (bt c0) ?_
    refine rx_k 1 (22, [(0, .ref (b + 11)), (1, .int a1)], [.int 0]) (fun _ _ => rfl) ?_
    rw [(show (D_X8_isKept s a1) = 0 from ((if_pos c0).trans rfl))]
    exact rx_ri rfl
  · refine rx_ifF rfl (bf c0) rfl ?_
    refine rx_k 1 (9, [(0, .ref (b + 11)), (1, .int a1)], [.ref (b + 11)]) (fun _ _ => rfl) ?_
    refine rx_getf rfl rfl (wg_11 hP) rfl ?_
    refine rx_k 1 (13, [(0, .ref (b + 11)), (1, .int a1)], [.int a1, .ref (b + 14)]) (fun _ _ => rfl) ?_
    refine rx_ild rfl rfl (wg_14 hP) (ar_at (rg_X8_has c0)) ?_
    by_cases c1 : (s 14 a1.toNatClampNeg) = 0
    · refine rx_ifT rfl (bt c1) ?_
      refine rx_k 1 (22, [(0, .ref (b + 11)), (1, .int a1)], [.int 0]) (fun _ _ => rfl) ?_
      rw [(show (D_X8_isKept s a1) = 0 from ((if_neg c0).trans ((if_pos c1).trans rfl)))]
      exact rx_ri rfl
    · refine rx_ifF rfl (bf c1) rfl ?_
      refine rx_k 2 (22, [(0, .ref (b + 11)), (1, .int a1)], [.int 1]) (fun _ _ => rfl) ?_
      rw [(show (D_X8_isKept s a1) = 1 from ((if_neg c0).trans ((if_neg c1).trans rfl)))]
      exact rx_ri rfl
theorem bz_X8_isKept {s : Sg} {a1 : Int32} : bz (D_X8_isKept s a1) = true := by
  by_cases c0 : (D_X8_has s a1) = 0
  · rw [show (D_X8_isKept s a1) = 0 from ((if_pos c0).trans rfl)]
    exact rfl
  · by_cases c1 : (s 14 a1.toNatClampNeg) = 0
    · rw [show (D_X8_isKept s a1) = 0 from ((if_neg c0).trans ((if_pos c1).trans rfl))]
      exact rfl
    · rw [show (D_X8_isKept s a1) = 1 from ((if_neg c0).trans ((if_neg c1).trans rfl))]
      exact rfl
theorem rc_X8_isKept (hP : WOK b w H0) {s : Sg} {a1 : Int32} : Rc sc 2 125 [.ref (b + 11), .int a1] (wd b w wl H0 s, kn) (some (.int (D_X8_isKept s a1))) (wd b w wl H0 s, kn) := rx_mc (m_X8_isKept hP) rfl (bz_X8_isKept ..) (Nat.ble_eq_true_of_le (Nat.le_refl _)) (Nat.ble_eq_true_of_le (Nat.le_refl _))
-- LinkHarbour$Taking.isTaken
noncomputable def D_X10_isTaken (q : Nat) (s : Sg) (a1 : Int32) : Int32 := (if (D_X11_isIn a1 10) = 0 then 0 else (if (D_X11_hasBit (s (q + 3) 4) a1) = 0 then 0 else 1))
theorem m_X10_isTaken (hP : WOK b w H0) {q : Nat} (hq : q = 38 ∨ q = 60) {s : Sg} {a1 : Int32} : Rx sc g_X10_isTaken 1 ((0, [(0, .ref (b + (q + 3))), (1, .int a1)], [])) (wd b w wl H0 s, kn) (some (.int (D_X10_isTaken q s a1))) (wd b w wl H0 s, kn) := by
  show Rx sc g_X10_isTaken 1 (0, [(0, .ref (b + (q + 3))), (1, .int a1)], []) (wd b w wl H0 s, kn) (some (.int (D_X10_isTaken q s a1))) (wd b w wl H0 s, kn)
  refine rx_k 2 (3, [(0, .ref (b + (q + 3))), (1, .int a1)], [.int 10, .int a1]) (fun _ _ => rfl) ?_
  refine rx_inv rfl rfl (rc_X11_isIn) rfl rfl rfl rfl rfl rfl ?_
  by_cases c0 : (D_X11_isIn a1 10) = 0
  · refine rx_ifT rfl (bt c0) ?_
    refine rx_k 1 (25, [(0, .ref (b + (q + 3))), (1, .int a1)], [.int 0]) (fun _ _ => rfl) ?_
    rw [(show (D_X10_isTaken q s a1) = 0 from ((if_pos c0).trans rfl))]
    exact rx_ri rfl
  · refine rx_ifF rfl (bf c0) rfl ?_
    refine rx_k 1 (10, [(0, .ref (b + (q + 3))), (1, .int a1)], [.ref (b + (q + 3))]) (fun _ _ => rfl) ?_
    refine rx_getf rfl rfl (wl_3 hP hq) rfl ?_
    refine rx_k 1 (14, [(0, .ref (b + (q + 3))), (1, .int a1)], [.int a1, .int (s (q + 3) 4)]) (fun _ _ => rfl) ?_
    refine rx_inv rfl rfl (rc_X11_hasBit) rfl rfl rfl rfl rfl rfl ?_
    by_cases c1 : (D_X11_hasBit (s (q + 3) 4) a1) = 0
    · refine rx_ifT rfl (bt c1) ?_
      refine rx_k 1 (25, [(0, .ref (b + (q + 3))), (1, .int a1)], [.int 0]) (fun _ _ => rfl) ?_
      rw [(show (D_X10_isTaken q s a1) = 0 from ((if_neg c0).trans ((if_pos c1).trans rfl)))]
      exact rx_ri rfl
    · refine rx_ifF rfl (bf c1) rfl ?_
      refine rx_k 2 (25, [(0, .ref (b + (q + 3))), (1, .int a1)], [.int 1]) (fun _ _ => rfl) ?_
      rw [(show (D_X10_isTaken q s a1) = 1 from ((if_neg c0).trans ((if_neg c1).trans rfl)))]
      exact rx_ri rfl
theorem bz_X10_isTaken {q : Nat} {s : Sg} {a1 : Int32} : bz (D_X10_isTaken q s a1) = true := by
  by_cases c0 : (D_X11_isIn a1 10) = 0
  · rw [show (D_X10_isTaken q s a1) = 0 from ((if_pos c0).trans rfl)]
    exact rfl
  · by_cases c1 : (D_X11_hasBit (s (q + 3) 4) a1) = 0
    · rw [show (D_X10_isTaken q s a1) = 0 from ((if_neg c0).trans ((if_pos c1).trans rfl))]
      exact rfl
    · rw [show (D_X10_isTaken q s a1) = 1 from ((if_neg c0).trans ((if_neg c1).trans rfl))]
      exact rfl
theorem rc_X10_isTaken (hP : WOK b w H0) {q : Nat} (hq : q = 38 ∨ q = 60) {s : Sg} {a1 : Int32} : Rc sc 2 152 [.ref (b + (q + 3)), .int a1] (wd b w wl H0 s, kn) (some (.int (D_X10_isTaken q s a1))) (wd b w wl H0 s, kn) := rx_mc (m_X10_isTaken hP hq) rfl (bz_X10_isTaken ..) (Nat.ble_eq_true_of_le (Nat.le_refl _)) (Nat.ble_eq_true_of_le (Nat.le_refl _))
-- LinkHarbour$Reaching.reachSection
noncomputable def D_X7_reachSection (q : Nat) (s : Sg) (a1 : Int32) : Sg := (if (D_X11_isIn a1 24) = 0 then s else (if (D_X11_hasBit (s (q + 12) 5) a1) = 0 then (if (s (q + 12) 4) < 24 then (up (up (up s (q + 12) 5 ((s (q + 12) 5) ||| (1 <<< (a1 &&& 31)))) (q + 13) (s (q + 12) 4).toNatClampNeg a1) (q + 12) 4 ((s (q + 12) 4) + 1)) else s) else s))
theorem m_X7_reachSection (hP : WOK b w H0) {q : Nat} (hq : q = 38 ∨ q = 60) {s : Sg} {a1 : Int32} (hN : NN s) : Rx sc g_X7_reachSection 1 ((0, [(0, .ref (b + (q + 12))), (1, .int a1)], [])) (wd b w wl H0 s, kn) none (wd b w wl H0 (D_X7_reachSection q s a1), kn) := by
  show Rx sc g_X7_reachSection 1 (0, [(0, .ref (b + (q + 12))), (1, .int a1)], []) (wd b w wl H0 s, kn) none (wd b w wl H0 (D_X7_reachSection q s a1), kn)
  refine rx_k 2 (3, [(0, .ref (b + (q + 12))), (1, .int a1)], [.int 24, .int a1]) (fun _ _ => rfl) ?_
  refine rx_inv rfl rfl (rc_X11_isIn) rfl rfl rfl rfl rfl rfl ?_
  by_cases c0 : (D_X11_isIn a1 24) = 0
  · refine rx_ifT rfl (bt c0) ?_
    rw [(show (D_X7_reachSection q s a1) = s from ((if_pos c0).trans rfl))]
    exact rx_rv rfl
  · refine rx_ifF rfl (bf c0) rfl ?_
    refine rx_k 1 (10, [(0, .ref (b + (q + 12))), (1, .int a1)], [.ref (b + (q + 12))]) (fun _ _ => rfl) ?_
    refine rx_getf rfl rfl (wl_12 hP hq) rfl ?_
    refine rx_k 1 (14, [(0, .ref (b + (q + 12))), (1, .int a1)], [.int a1, .int (s (q + 12) 5)]) (fun _ _ => rfl) ?_
    refine rx_inv rfl rfl (rc_X11_hasBit) rfl rfl rfl rfl rfl rfl ?_
    by_cases c1 : (D_X11_hasBit (s (q + 12) 5) a1) = 0
    · refine rx_ifF rfl (nf c1) rfl ?_
      refine rx_k 1 (21, [(0, .ref (b + (q + 12))), (1, .int a1)], [.ref (b + (q + 12))]) (fun _ _ => rfl) ?_
      refine rx_getf rfl rfl (wl_12 hP hq) rfl ?_
      refine rx_k 1 (26, [(0, .ref (b + (q + 12))), (1, .int a1)], [.int 24, .int (s (q + 12) 4)]) (fun _ _ => rfl) ?_
      by_cases c2 : (s (q + 12) 4) < 24
      · refine rx_icT rfl (bt c2) ?_
        refine rx_k 2 (32, [(0, .ref (b + (q + 12))), (1, .int a1)], [.ref (b + (q + 12)), .ref (b + (q + 12))]) (fun _ _ => rfl) ?_
        refine rx_getf rfl rfl (wl_12 hP hq) rfl ?_
        refine rx_k 4 (39, [(0, .ref (b + (q + 12))), (1, .int a1)], [.int ((s (q + 12) 5) ||| (1 <<< (a1 &&& 31))), .ref (b + (q + 12))]) (fun _ _ => rfl) ?_
        refine rx_putf rfl rfl (wl_12 hP hq) rfl (wz_12_5 hP hq) ?_
        refine rx_k 1 (43, [(0, .ref (b + (q + 12))), (1, .int a1)], [.ref (b + (q + 12))]) (fun _ _ => rfl) ?_
        refine rx_getf rfl rfl (wl_12 hP hq) rfl ?_
        refine rx_k 1 (47, [(0, .ref (b + (q + 12))), (1, .int a1)], [.ref (b + (q + 12)), .ref (b + (q + 13))]) (fun _ _ => rfl) ?_
        refine rx_getf (v := .int (s (q + 12) 4)) rfl rfl (wl_12 hP hq) (congrArg (fun z => some (Value.int z)) (rd_nj (by decide))) ?_
        refine rx_k 1 (51, [(0, .ref (b + (q + 12))), (1, .int a1)], [.int a1, .int (s (q + 12) 4), .ref (b + (q + 13))]) (fun _ _ => rfl) ?_
        refine rx_ist rfl rfl (wl_13 hP hq) rfl (ar_at (rg_d (hN (q + 12) 4 (by first | rfl | (rcases hq with rfl | rfl <;> rfl))) c2 (m := 24) (n := 24) rfl)) (wz_13 hP hq (rg_d (hN (q + 12) 4 (by first | rfl | (rcases hq with rfl | rfl <;> rfl))) c2 (m := 24) (n := 24) rfl)) ?_
        refine rx_k 2 (54, [(0, .ref (b + (q + 12))), (1, .int a1)], [.ref (b + (q + 12)), .ref (b + (q + 12))]) (fun _ _ => rfl) ?_
        refine rx_getf (v := .int (s (q + 12) 4)) rfl rfl (wl_12 hP hq) (congrArg (fun z => some (Value.int z)) ((rd_nk (by omega)).trans (rd_nj (by decide)))) ?_
        refine rx_k 2 (59, [(0, .ref (b + (q + 12))), (1, .int a1)], [.int ((s (q + 12) 4) + 1), .ref (b + (q + 12))]) (fun _ _ => rfl) ?_
        refine rx_putf rfl rfl (wl_12 hP hq) rfl (wz_12_4 hP hq) ?_
        rw [(show (D_X7_reachSection q s a1) = (up (up (up s (q + 12) 5 ((s (q + 12) 5) ||| (1 <<< (a1 &&& 31)))) (q + 13) (s (q + 12) 4).toNatClampNeg a1) (q + 12) 4 ((s (q + 12) 4) + 1)) from ((if_neg c0).trans ((if_pos c1).trans ((if_pos c2).trans rfl))))]
        exact rx_rv rfl
      · refine rx_icF rfl (bf c2) rfl ?_
        rw [(show (D_X7_reachSection q s a1) = s from ((if_neg c0).trans ((if_pos c1).trans ((if_neg c2).trans rfl))))]
        exact rx_rv rfl
    · refine rx_ifT rfl (nt c1) ?_
      rw [(show (D_X7_reachSection q s a1) = s from ((if_neg c0).trans ((if_neg c1).trans rfl)))]
      exact rx_rv rfl
theorem rc_X7_reachSection (hP : WOK b w H0) {q : Nat} (hq : q = 38 ∨ q = 60) {s : Sg} {a1 : Int32} (hN : NN s) : Rc sc 2 115 [.ref (b + (q + 12)), .int a1] (wd b w wl H0 s, kn) none (wd b w wl H0 (D_X7_reachSection q s a1), kn) := rx_mc (m_X7_reachSection hP hq hN) rfl rfl (Nat.ble_eq_true_of_le (Nat.le_refl _)) (Nat.ble_eq_true_of_le (Nat.le_refl _))
theorem nn_X7_reachSection {q : Nat} (hq : q = 38 ∨ q = 60) {s : Sg} {a1 : Int32} (hN : NN s) : NN (D_X7_reachSection q s a1) := by
  by_cases c0 : (D_X11_isIn a1 24) = 0
  · rw [show (D_X7_reachSection q s a1) = s from ((if_pos c0).trans rfl)]
    exact hN
  · by_cases c1 : (D_X11_hasBit (s (q + 12) 5) a1) = 0
    · by_cases c2 : (s (q + 12) 4) < 24
      · rw [show (D_X7_reachSection q s a1) = (up (up (up s (q + 12) 5 ((s (q + 12) 5) ||| (1 <<< (a1 &&& 31)))) (q + 13) (s (q + 12) 4).toNatClampNeg a1) (q + 12) 4 ((s (q + 12) 4) + 1)) from ((if_neg c0).trans ((if_pos c1).trans ((if_pos c2).trans rfl)))]
        exact (nn_c (nn_inc (rg_d (hN (q + 12) 4 (by first | rfl | (rcases hq with rfl | rfl <;> rfl))) c2 (m := 24) (n := 24) rfl).1 (lt_lt c2) (by decide)) (nn_0 (by rcases hq with rfl | rfl <;> rfl) (nn_f (by rcases hq with rfl | rfl <;> rfl) hN)))
      · rw [show (D_X7_reachSection q s a1) = s from ((if_neg c0).trans ((if_pos c1).trans ((if_neg c2).trans rfl)))]
        exact hN
    · rw [show (D_X7_reachSection q s a1) = s from ((if_neg c0).trans ((if_neg c1).trans rfl))]
      exact hN
theorem fw_X7_reachSection {q : Nat} {s : Sg} {a1 : Int32} {k j : Nat} (l12f4 : k ≠ q + 12 ∨ j ≠ 4) (l12f5 : k ≠ q + 12 ∨ j ≠ 5) (l13 : k ≠ q + 13) : (D_X7_reachSection q s a1) k j = s k j := by
  by_cases c0 : (D_X11_isIn a1 24) = 0
  · rw [show (D_X7_reachSection q s a1) = s from ((if_pos c0).trans rfl)]
    first | done | exact rfl
  · by_cases c1 : (D_X11_hasBit (s (q + 12) 5) a1) = 0
    · by_cases c2 : (s (q + 12) 4) < 24
      · rw [show (D_X7_reachSection q s a1) = (up (up (up s (q + 12) 5 ((s (q + 12) 5) ||| (1 <<< (a1 &&& 31)))) (q + 13) (s (q + 12) 4).toNatClampNeg a1) (q + 12) 4 ((s (q + 12) 4) + 1)) from ((if_neg c0).trans ((if_pos c1).trans ((if_pos c2).trans rfl)))]
        first | done | exact ((up_f l12f4).trans ((up_a l13).trans ((up_f l12f5).trans rfl)))
      · rw [show (D_X7_reachSection q s a1) = s from ((if_neg c0).trans ((if_pos c1).trans ((if_neg c2).trans rfl)))]
        first | done | exact rfl
    · rw [show (D_X7_reachSection q s a1) = s from ((if_neg c0).trans ((if_neg c1).trans rfl))]
      first | done | exact rfl
-- LinkHarbour$Settling.kind
noncomputable def D_X9_kind (q : Nat) (s : Sg) (a1 : Int32) : Int32 := (if (D_X11_isName a1) = 0 then (-1) else (s (q + 6) a1.toNatClampNeg))
theorem m_X9_kind (hP : WOK b w H0) {q : Nat} (hq : q = 38 ∨ q = 60) {s : Sg} {a1 : Int32} : Rx sc g_X9_kind 1 ((0, [(0, .ref (b + (q + 5))), (1, .int a1)], [])) (wd b w wl H0 s, kn) (some (.int (D_X9_kind q s a1))) (wd b w wl H0 s, kn) := by
  show Rx sc g_X9_kind 1 (0, [(0, .ref (b + (q + 5))), (1, .int a1)], []) (wd b w wl H0 s, kn) (some (.int (D_X9_kind q s a1))) (wd b w wl H0 s, kn)
  refine rx_k 1 (1, [(0, .ref (b + (q + 5))), (1, .int a1)], [.int a1]) (fun _ _ => rfl) ?_
  refine rx_inv rfl rfl (rc_X11_isName) rfl rfl rfl rfl rfl rfl ?_
  by_cases c0 : (D_X11_isName a1) = 0
  · refine rx_ifT rfl (bt c0) ?_
    refine rx_k 1 (17, [(0, .ref (b + (q + 5))), (1, .int a1)], [.int (-1)]) (fun _ _ => rfl) ?_
    rw [(show (D_X9_kind q s a1) = (-1) from ((if_pos c0).trans rfl))]
    exact rx_ri rfl
  · refine rx_ifF rfl (bf c0) rfl ?_
    refine rx_k 1 (8, [(0, .ref (b + (q + 5))), (1, .int a1)], [.ref (b + (q + 5))]) (fun _ _ => rfl) ?_
    refine rx_getf rfl rfl (wl_5 hP hq) rfl ?_
    refine rx_k 1 (12, [(0, .ref (b + (q + 5))), (1, .int a1)], [.int a1, .ref (b + (q + 6))]) (fun _ _ => rfl) ?_
    refine rx_ild rfl rfl (wl_6 hP hq) (ar_at (rg_isName c0)) ?_
    refine rx_k 1 (17, [(0, .ref (b + (q + 5))), (1, .int a1)], [.int (s (q + 6) a1.toNatClampNeg)]) (fun _ _ => rfl) ?_
    rw [(show (D_X9_kind q s a1) = (s (q + 6) a1.toNatClampNeg) from ((if_neg c0).trans rfl))]
    exact rx_ri rfl
theorem rc_X9_kind (hP : WOK b w H0) {q : Nat} (hq : q = 38 ∨ q = 60) {s : Sg} {a1 : Int32} : Rc sc 2 140 [.ref (b + (q + 5)), .int a1] (wd b w wl H0 s, kn) (some (.int (D_X9_kind q s a1))) (wd b w wl H0 s, kn) := rx_mc (m_X9_kind hP hq) rfl rfl (Nat.ble_eq_true_of_le (Nat.le_refl _)) (Nat.ble_eq_true_of_le (Nat.le_refl _))
-- LinkHarbour$Reaching.reachName
noncomputable def D_X7_reachName (q : Nat) (s : Sg) (a1 : Int32) : Sg := (if (D_X9_kind q s a1) = 1 then (up s (q + 12) 6 ((s (q + 12) 6) ||| (1 <<< (a1 &&& 31)))) else (if (D_X9_kind q s a1) = (-1) then s else (D_X7_reachSection q s (D_X9_sectionOf q s a1))))
theorem m_X7_reachName (hP : WOK b w H0) {q : Nat} (hq : q = 38 ∨ q = 60) {s : Sg} {a1 : Int32} (hN : NN s) : Rx sc g_X7_reachName 2 ((0, [(0, .ref (b + (q + 12))), (1, .int a1)], [])) (wd b w wl H0 s, kn) none (wd b w wl H0 (D_X7_reachName q s a1), kn) := by
  show Rx sc g_X7_reachName 2 (0, [(0, .ref (b + (q + 12))), (1, .int a1)], []) (wd b w wl H0 s, kn) none (wd b w wl H0 (D_X7_reachName q s a1), kn)
  refine rx_k 1 (1, [(0, .ref (b + (q + 12))), (1, .int a1)], [.ref (b + (q + 12))]) (fun _ _ => rfl) ?_
  refine rx_getf rfl rfl (wl_12 hP hq) rfl ?_
  refine rx_k 1 (5, [(0, .ref (b + (q + 12))), (1, .int a1)], [.int a1, .ref (b + (q + 5))]) (fun _ _ => rfl) ?_
  refine rx_inv rfl rfl (rc_X9_kind hP hq) rfl rfl rfl (q_recv (wl_5 hP hq)) rfl rfl ?_
  refine rx_k 3 (11, [(2, .int (D_X9_kind q s a1)), (0, .ref (b + (q + 12))), (1, .int a1)], [.int 1, .int (D_X9_kind q s a1)]) (fun _ _ => rfl) ?_
  by_cases c0 : (D_X9_kind q s a1) = 1
  · refine rx_icF rfl (nf c0) rfl ?_
    refine rx_k 2 (16, [(2, .int (D_X9_kind q s a1)), (0, .ref (b + (q + 12))), (1, .int a1)], [.ref (b + (q + 12)), .ref (b + (q + 12))]) (fun _ _ => rfl) ?_
    refine rx_getf rfl rfl (wl_12 hP hq) rfl ?_
    refine rx_k 4 (23, [(2, .int (D_X9_kind q s a1)), (0, .ref (b + (q + 12))), (1, .int a1)], [.int ((s (q + 12) 6) ||| (1 <<< (a1 &&& 31))), .ref (b + (q + 12))]) (fun _ _ => rfl) ?_
    refine rx_putf rfl rfl (wl_12 hP hq) rfl (wz_12_6 hP hq) ?_
    refine rx_k 1 (46, [(2, .int (D_X9_kind q s a1)), (0, .ref (b + (q + 12))), (1, .int a1)], []) (fun _ _ => rfl) ?_
    rw [(show (D_X7_reachName q s a1) = (up s (q + 12) 6 ((s (q + 12) 6) ||| (1 <<< (a1 &&& 31)))) from ((if_pos c0).trans rfl))]
    exact rx_rv rfl
  · refine rx_icT rfl (nt c0) ?_
    refine rx_k 2 (31, [(2, .int (D_X9_kind q s a1)), (0, .ref (b + (q + 12))), (1, .int a1)], [.int (-1), .int (D_X9_kind q s a1)]) (fun _ _ => rfl) ?_
    by_cases c1 : (D_X9_kind q s a1) = (-1)
    · refine rx_icT rfl (bt c1) ?_
      rw [(show (D_X7_reachName q s a1) = s from ((if_neg c0).trans ((if_pos c1).trans rfl)))]
      exact rx_rv rfl
    · refine rx_icF rfl (bf c1) rfl ?_
      refine rx_k 2 (36, [(2, .int (D_X9_kind q s a1)), (0, .ref (b + (q + 12))), (1, .int a1)], [.ref (b + (q + 12)), .ref (b + (q + 12))]) (fun _ _ => rfl) ?_
      refine rx_getf rfl rfl (wl_12 hP hq) rfl ?_
      refine rx_k 1 (40, [(2, .int (D_X9_kind q s a1)), (0, .ref (b + (q + 12))), (1, .int a1)], [.int a1, .ref (b + (q + 5)), .ref (b + (q + 12))]) (fun _ _ => rfl) ?_
      refine rx_inv rfl rfl (rc_X9_sectionOf hP hq) rfl rfl rfl (q_recv (wl_5 hP hq)) rfl rfl ?_
      refine rx_inv rfl rfl (rc_X7_reachSection hP hq hN) rfl rfl rfl (q_recv (wl_12 hP hq)) rfl rfl ?_
      rw [(show (D_X7_reachName q s a1) = (D_X7_reachSection q s (D_X9_sectionOf q s a1)) from ((if_neg c0).trans ((if_neg c1).trans rfl)))]
      exact rx_rv rfl
theorem rc_X7_reachName (hP : WOK b w H0) {q : Nat} (hq : q = 38 ∨ q = 60) {s : Sg} {a1 : Int32} (hN : NN s) : Rc sc 3 114 [.ref (b + (q + 12)), .int a1] (wd b w wl H0 s, kn) none (wd b w wl H0 (D_X7_reachName q s a1), kn) := rx_mc (m_X7_reachName hP hq hN) rfl rfl (Nat.ble_eq_true_of_le (Nat.le_refl _)) (Nat.ble_eq_true_of_le (Nat.le_refl _))
theorem nn_X7_reachName {q : Nat} (hq : q = 38 ∨ q = 60) {s : Sg} {a1 : Int32} (hN : NN s) : NN (D_X7_reachName q s a1) := by
  by_cases c0 : (D_X9_kind q s a1) = 1
  · rw [show (D_X7_reachName q s a1) = (up s (q + 12) 6 ((s (q + 12) 6) ||| (1 <<< (a1 &&& 31)))) from ((if_pos c0).trans rfl)]
    exact (nn_f (by rcases hq with rfl | rfl <;> rfl) hN)
  · by_cases c1 : (D_X9_kind q s a1) = (-1)
    · rw [show (D_X7_reachName q s a1) = s from ((if_neg c0).trans ((if_pos c1).trans rfl))]
      exact hN
    · rw [show (D_X7_reachName q s a1) = (D_X7_reachSection q s (D_X9_sectionOf q s a1)) from ((if_neg c0).trans ((if_neg c1).trans rfl))]
      exact (nn_X7_reachSection hq hN)
theorem fw_X7_reachName {q : Nat} {s : Sg} {a1 : Int32} {k j : Nat} (l12f4 : k ≠ q + 12 ∨ j ≠ 4) (l12f5 : k ≠ q + 12 ∨ j ≠ 5) (l12f6 : k ≠ q + 12 ∨ j ≠ 6) (l13 : k ≠ q + 13) : (D_X7_reachName q s a1) k j = s k j := by
  by_cases c0 : (D_X9_kind q s a1) = 1
  · rw [show (D_X7_reachName q s a1) = (up s (q + 12) 6 ((s (q + 12) 6) ||| (1 <<< (a1 &&& 31)))) from ((if_pos c0).trans rfl)]
    first | done | exact ((up_f l12f6).trans rfl)
  · by_cases c1 : (D_X9_kind q s a1) = (-1)
    · rw [show (D_X7_reachName q s a1) = s from ((if_neg c0).trans ((if_pos c1).trans rfl))]
      first | done | exact rfl
    · rw [show (D_X7_reachName q s a1) = (D_X7_reachSection q s (D_X9_sectionOf q s a1)) from ((if_neg c0).trans ((if_neg c1).trans rfl))]
      first | done | exact ((fw_X7_reachSection l12f4 l12f5 l13).trans rfl)
-- LinkHarbour$SectionTable.pieces
noncomputable def D_X8_pieces (s : Sg) (a1 : Int32) : Int32 := (if (D_X8_has s a1) = 0 then 0 else (s 15 a1.toNatClampNeg))
theorem m_X8_pieces (hP : WOK b w H0) {s : Sg} {a1 : Int32} : Rx sc g_X8_pieces 1 ((0, [(0, .ref (b + 11)), (1, .int a1)], [])) (wd b w wl H0 s, kn) (some (.int (D_X8_pieces s a1))) (wd b w wl H0 s, kn) := by
  show Rx sc g_X8_pieces 1 (0, [(0, .ref (b + 11)), (1, .int a1)], []) (wd b w wl H0 s, kn) (some (.int (D_X8_pieces s a1))) (wd b w wl H0 s, kn)
  refine rx_k 2 (2, [(0, .ref (b + 11)), (1, .int a1)], [.int a1, .ref (b + 11)]) (fun _ _ => rfl) ?_
  refine rx_inv rfl rfl (rc_X8_has hP) rfl rfl rfl (q_recv (wg_11 hP)) rfl rfl ?_
  by_cases c0 : (D_X8_has s a1) = 0
  · refine rx_ifT rfl (bt c0) ?_
    refine rx_k 1 (18, [(0, .ref (b + 11)), (1, .int a1)], [.int 0]) (fun _ _ => rfl) ?_
    rw [(show (D_X8_pieces s a1) = 0 from ((if_pos c0).trans rfl))]
    exact rx_ri rfl
  · refine rx_ifF rfl (bf c0) rfl ?_
    refine rx_k 1 (9, [(0, .ref (b + 11)), (1, .int a1)], [.ref (b + 11)]) (fun _ _ => rfl) ?_
    refine rx_getf rfl rfl (wg_11 hP) rfl ?_
    refine rx_k 1 (13, [(0, .ref (b + 11)), (1, .int a1)], [.int a1, .ref (b + 15)]) (fun _ _ => rfl) ?_
    refine rx_ild rfl rfl (wg_15 hP) (ar_at (rg_X8_has c0)) ?_
    refine rx_k 1 (18, [(0, .ref (b + 11)), (1, .int a1)], [.int (s 15 a1.toNatClampNeg)]) (fun _ _ => rfl) ?_
    rw [(show (D_X8_pieces s a1) = (s 15 a1.toNatClampNeg) from ((if_neg c0).trans rfl))]
    exact rx_ri rfl
theorem rc_X8_pieces (hP : WOK b w H0) {s : Sg} {a1 : Int32} : Rc sc 2 126 [.ref (b + 11), .int a1] (wd b w wl H0 s, kn) (some (.int (D_X8_pieces s a1))) (wd b w wl H0 s, kn) := rx_mc (m_X8_pieces hP) rfl rfl (Nat.ble_eq_true_of_le (Nat.le_refl _)) (Nat.ble_eq_true_of_le (Nat.le_refl _))
-- LinkHarbour$SectionTable.isReference
noncomputable def D_X8_isReference (s : Sg) (a1 : Int32) (a2 : Int32) : Int32 := (if (D_X8_kind s a1 a2) = 0 then 0 else 1)
theorem m_X8_isReference (hP : WOK b w H0) {s : Sg} {a1 : Int32} {a2 : Int32} : Rx sc g_X8_isReference 2 ((0, [(0, .ref (b + 11)), (1, .int a1), (2, .int a2)], [])) (wd b w wl H0 s, kn) (some (.int (D_X8_isReference s a1 a2))) (wd b w wl H0 s, kn) := by
  show Rx sc g_X8_isReference 2 (0, [(0, .ref (b + 11)), (1, .int a1), (2, .int a2)], []) (wd b w wl H0 s, kn) (some (.int (D_X8_isReference s a1 a2))) (wd b w wl H0 s, kn)
  refine rx_k 3 (3, [(0, .ref (b + 11)), (1, .int a1), (2, .int a2)], [.int a2, .int a1, .ref (b + 11)]) (fun _ _ => rfl) ?_
  refine rx_inv rfl rfl (rc_X8_kind hP) rfl rfl rfl (q_recv (wg_11 hP)) rfl rfl ?_
  by_cases c0 : (D_X8_kind s a1 a2) = 0
  · refine rx_ifT rfl (bt c0) ?_
    refine rx_k 1 (14, [(0, .ref (b + 11)), (1, .int a1), (2, .int a2)], [.int 0]) (fun _ _ => rfl) ?_
    rw [(show (D_X8_isReference s a1 a2) = 0 from ((if_pos c0).trans rfl))]
    exact rx_ri rfl
  · refine rx_ifF rfl (bf c0) rfl ?_
    refine rx_k 2 (14, [(0, .ref (b + 11)), (1, .int a1), (2, .int a2)], [.int 1]) (fun _ _ => rfl) ?_
    rw [(show (D_X8_isReference s a1 a2) = 1 from ((if_neg c0).trans rfl))]
    exact rx_ri rfl
theorem bz_X8_isReference {s : Sg} {a1 : Int32} {a2 : Int32} : bz (D_X8_isReference s a1 a2) = true := by
  by_cases c0 : (D_X8_kind s a1 a2) = 0
  · rw [show (D_X8_isReference s a1 a2) = 0 from ((if_pos c0).trans rfl)]
    exact rfl
  · rw [show (D_X8_isReference s a1 a2) = 1 from ((if_neg c0).trans rfl)]
    exact rfl
theorem rc_X8_isReference (hP : WOK b w H0) {s : Sg} {a1 : Int32} {a2 : Int32} : Rc sc 3 130 [.ref (b + 11), .int a1, .int a2] (wd b w wl H0 s, kn) (some (.int (D_X8_isReference s a1 a2))) (wd b w wl H0 s, kn) := rx_mc (m_X8_isReference hP) rfl (bz_X8_isReference ..) (Nat.ble_eq_true_of_le (Nat.le_refl _)) (Nat.ble_eq_true_of_le (Nat.le_refl _))
-- LinkHarbour$Reaching.follow
def fr_X7_follow_2 (b w : Nat) (q : Nat) (a1 : Int32) (a2 : Int32) (x3 : Int32) : EF := (2, [(0, .ref (b + (q + 12))), (1, .int a1), (2, .int a2), (3, .int x3)], [])
def fe_X7_follow_2 (b w : Nat) (q : Nat) (a1 : Int32) (a2 : Int32) (x3 : Int32) : EF := (101, [], [])
noncomputable def B_X7_follow_2 (q : Nat) (a1 : Int32) (a2 : Int32) (x3 : Int32) (s : Sg) : Bool × (Int32 × Sg) := (if (D_X8_pieces s a1) ≤ x3 then (false, (x3, s)) else (if (D_X8_isReference s a1 x3) = 0 then (true, ((x3 + 1), s)) else (if (D_X11_isName (D_X8_name s a1 x3)) = 0 then (true, ((x3 + 1), s)) else (if a2 = 0 then (true, ((x3 + 1), (D_X7_reachName q (up s (q + 14) (D_X8_name s a1 x3).toNatClampNeg ((s (q + 14) (D_X8_name s a1 x3).toNatClampNeg) + 1)) (D_X8_name s a1 x3)))) else (if (D_X9_kind q (D_X7_reachName q (up s (q + 14) (D_X8_name s a1 x3).toNatClampNeg ((s (q + 14) (D_X8_name s a1 x3).toNatClampNeg) + 1)) (D_X8_name s a1 x3)) (D_X8_name s a1 x3)) = (-1) then (true, ((x3 + 1), (up (D_X7_reachName q (up s (q + 14) (D_X8_name s a1 x3).toNatClampNeg ((s (q + 14) (D_X8_name s a1 x3).toNatClampNeg) + 1)) (D_X8_name s a1 x3)) (q + 12) 7 (((D_X7_reachName q (up s (q + 14) (D_X8_name s a1 x3).toNatClampNeg ((s (q + 14) (D_X8_name s a1 x3).toNatClampNeg) + 1)) (D_X8_name s a1 x3)) (q + 12) 7) ||| (1 <<< ((D_X8_name s a1 x3) &&& 31)))))) else (true, ((x3 + 1), (D_X7_reachName q (up s (q + 14) (D_X8_name s a1 x3).toNatClampNeg ((s (q + 14) (D_X8_name s a1 x3).toNatClampNeg) + 1)) (D_X8_name s a1 x3)))))))))
theorem b_X7_follow_2 (hP : WOK b w H0) {q : Nat} (hq : q = 38 ∨ q = 60) {s : Sg} {a1 : Int32} {a2 : Int32} {x3 : Int32} (z2 : bz a2 = true) (o : Option Value) (h' : EH) (hN : NN s) (hv : 0 ≤ x3.toInt) (hc : ∀ (t3 : Int32) (ts : Sg), (B_X7_follow_2 q a1 a2 x3 s) = (true, (t3, ts)) → x3.toInt < 2147483647 → t3 = x3 + 1 → Rx sc g_X7_follow 3 (fr_X7_follow_2 b w q a1 a2 t3) (wd b w wl H0 ts, kn) o h') (he : ∀ (t3 : Int32) (ts : Sg), (B_X7_follow_2 q a1 a2 x3 s) = (false, (t3, ts)) → Rx sc g_X7_follow 3 (fe_X7_follow_2 b w q a1 a2 t3) (wd b w wl H0 ts, kn) o h') : Rx sc g_X7_follow 3 (fr_X7_follow_2 b w q a1 a2 x3) (wd b w wl H0 s, kn) o h' := by
  show Rx sc g_X7_follow 3 (2, [(0, .ref (b + (q + 12))), (1, .int a1), (2, .int a2), (3, .int x3)], []) (wd b w wl H0 s, kn) o h'
  refine rx_k 2 (4, [(0, .ref (b + (q + 12))), (1, .int a1), (2, .int a2), (3, .int x3)], [.ref (b + (q + 12)), .int x3]) (fun _ _ => rfl) ?_
  refine rx_getf rfl rfl (wl_12 hP hq) rfl ?_
  refine rx_k 1 (8, [(0, .ref (b + (q + 12))), (1, .int a1), (2, .int a2), (3, .int x3)], [.int a1, .ref (b + 11), .int x3]) (fun _ _ => rfl) ?_
  refine rx_inv rfl rfl (rc_X8_pieces hP) rfl rfl rfl (q_recv (wg_11 hP)) rfl rfl ?_
  by_cases c0 : (D_X8_pieces s a1) ≤ x3
  · refine rx_icT rfl (bt c0) ?_
    exact rx_lo am_X7_follow (lo := []) (fun _ h => absurd h List.not_mem_nil) rfl (he _ _ (show (B_X7_follow_2 q a1 a2 x3 s) = (false, (x3, s)) from ((if_pos c0).trans rfl)))
  · refine rx_icF rfl (bf c0) rfl ?_
    refine rx_k 1 (15, [(0, .ref (b + (q + 12))), (1, .int a1), (2, .int a2), (3, .int x3)], [.ref (b + (q + 12))]) (fun _ _ => rfl) ?_
    refine rx_getf rfl rfl (wl_12 hP hq) rfl ?_
    refine rx_k 2 (20, [(0, .ref (b + (q + 12))), (1, .int a1), (2, .int a2), (3, .int x3)], [.int x3, .int a1, .ref (b + 11)]) (fun _ _ => rfl) ?_
    refine rx_inv rfl rfl (rc_X8_name hP) rfl rfl rfl (q_recv (wg_11 hP)) rfl rfl ?_
    refine rx_k 2 (26, [(4, .int (D_X8_name s a1 x3)), (0, .ref (b + (q + 12))), (1, .int a1), (2, .int a2), (3, .int x3)], [.ref (b + (q + 12))]) (fun _ _ => rfl) ?_
    refine rx_getf rfl rfl (wl_12 hP hq) rfl ?_
    refine rx_k 2 (31, [(4, .int (D_X8_name s a1 x3)), (0, .ref (b + (q + 12))), (1, .int a1), (2, .int a2), (3, .int x3)], [.int x3, .int a1, .ref (b + 11)]) (fun _ _ => rfl) ?_
    refine rx_inv rfl rfl (rc_X8_isReference hP) rfl rfl rfl (q_recv (wg_11 hP)) rfl rfl ?_
    by_cases c1 : (D_X8_isReference s a1 x3) = 0
    · refine rx_ifT rfl (bt c1) ?_
      refine rx_k 2 (2, [(3, .int (x3 + 1)), (4, .int (D_X8_name s a1 x3)), (0, .ref (b + (q + 12))), (1, .int a1), (2, .int a2)], []) (fun _ _ => rfl) ?_
      refine rx_lo am_X7_follow (lo := [(0, .ref (b + (q + 12))), (1, .int a1), (2, .int a2), (3, .int (x3 + 1))]) (List.forall_mem_cons.mpr ⟨List.mem_of_getElem? (i := 2) rfl, (List.forall_mem_cons.mpr ⟨List.mem_of_getElem? (i := 3) rfl, (List.forall_mem_cons.mpr ⟨List.mem_of_getElem? (i := 4) rfl, (List.forall_mem_cons.mpr ⟨List.mem_of_getElem? (i := 0) rfl, (fun _ h => absurd h List.not_mem_nil)⟩)⟩)⟩)⟩) rfl (hc _ _ (show (B_X7_follow_2 q a1 a2 x3 s) = (true, ((x3 + 1), s)) from ((if_neg c0).trans ((if_pos c1).trans rfl))) (lt_nle c0) rfl)
    · refine rx_ifF rfl (bf c1) rfl ?_
      refine rx_k 1 (39, [(4, .int (D_X8_name s a1 x3)), (0, .ref (b + (q + 12))), (1, .int a1), (2, .int a2), (3, .int x3)], [.int (D_X8_name s a1 x3)]) (fun _ _ => rfl) ?_
      refine rx_inv rfl rfl (rc_X11_isName) rfl rfl rfl rfl rfl rfl ?_
      by_cases c2 : (D_X11_isName (D_X8_name s a1 x3)) = 0
      · refine rx_ifF rfl (nf c2) rfl ?_
        refine rx_k 3 (2, [(3, .int (x3 + 1)), (4, .int (D_X8_name s a1 x3)), (0, .ref (b + (q + 12))), (1, .int a1), (2, .int a2)], []) (fun _ _ => rfl) ?_
        refine rx_lo am_X7_follow (lo := [(0, .ref (b + (q + 12))), (1, .int a1), (2, .int a2), (3, .int (x3 + 1))]) (List.forall_mem_cons.mpr ⟨List.mem_of_getElem? (i := 2) rfl, (List.forall_mem_cons.mpr ⟨List.mem_of_getElem? (i := 3) rfl, (List.forall_mem_cons.mpr ⟨List.mem_of_getElem? (i := 4) rfl, (List.forall_mem_cons.mpr ⟨List.mem_of_getElem? (i := 0) rfl, (fun _ h => absurd h List.not_mem_nil)⟩)⟩)⟩)⟩) rfl (hc _ _ (show (B_X7_follow_2 q a1 a2 x3 s) = (true, ((x3 + 1), s)) from ((if_neg c0).trans ((if_neg c1).trans ((if_pos c2).trans rfl)))) (lt_nle c0) rfl)
      · refine rx_ifT rfl (nt c2) ?_
        refine rx_k 1 (49, [(4, .int (D_X8_name s a1 x3)), (0, .ref (b + (q + 12))), (1, .int a1), (2, .int a2), (3, .int x3)], [.ref (b + (q + 12))]) (fun _ _ => rfl) ?_
        refine rx_getf rfl rfl (wl_12 hP hq) rfl ?_
        refine rx_k 2 (55, [(4, .int (D_X8_name s a1 x3)), (0, .ref (b + (q + 12))), (1, .int a1), (2, .int a2), (3, .int x3)], [.int (D_X8_name s a1 x3), .ref (b + (q + 14)), .int (D_X8_name s a1 x3), .ref (b + (q + 14))]) (fun _ _ => rfl) ?_
        refine rx_ild rfl rfl (wl_14 hP hq) (ar_at (rg_isName c2)) ?_
        refine rx_k 2 (58, [(4, .int (D_X8_name s a1 x3)), (0, .ref (b + (q + 12))), (1, .int a1), (2, .int a2), (3, .int x3)], [.int ((s (q + 14) (D_X8_name s a1 x3).toNatClampNeg) + 1), .int (D_X8_name s a1 x3), .ref (b + (q + 14))]) (fun _ _ => rfl) ?_
        refine rx_ist rfl rfl (wl_14 hP hq) rfl (ar_at (rg_isName c2)) (wz_14 hP hq (rg_isName c2)) ?_
        refine rx_k 2 (62, [(4, .int (D_X8_name s a1 x3)), (0, .ref (b + (q + 12))), (1, .int a1), (2, .int a2), (3, .int x3)], [.int (D_X8_name s a1 x3), .ref (b + (q + 12))]) (fun _ _ => rfl) ?_
        refine rx_inv rfl rfl (rc_X7_reachName hP hq (nn_0 (by rcases hq with rfl | rfl <;> rfl) hN)) rfl rfl rfl (q_recv (wl_12 hP hq)) rfl rfl ?_
        refine rx_k 1 (66, [(4, .int (D_X8_name s a1 x3)), (0, .ref (b + (q + 12))), (1, .int a1), (2, .int a2), (3, .int x3)], [.int a2]) (fun _ _ => rfl) ?_
        by_cases c3 : a2 = 0
        · refine rx_ifT rfl (bt c3) ?_
          refine rx_k 2 (2, [(3, .int (x3 + 1)), (4, .int (D_X8_name s a1 x3)), (0, .ref (b + (q + 12))), (1, .int a1), (2, .int a2)], []) (fun _ _ => rfl) ?_
          refine rx_lo am_X7_follow (lo := [(0, .ref (b + (q + 12))), (1, .int a1), (2, .int a2), (3, .int (x3 + 1))]) (List.forall_mem_cons.mpr ⟨List.mem_of_getElem? (i := 2) rfl, (List.forall_mem_cons.mpr ⟨List.mem_of_getElem? (i := 3) rfl, (List.forall_mem_cons.mpr ⟨List.mem_of_getElem? (i := 4) rfl, (List.forall_mem_cons.mpr ⟨List.mem_of_getElem? (i := 0) rfl, (fun _ h => absurd h List.not_mem_nil)⟩)⟩)⟩)⟩) rfl (hc _ _ (show (B_X7_follow_2 q a1 a2 x3 s) = (true, ((x3 + 1), (D_X7_reachName q (up s (q + 14) (D_X8_name s a1 x3).toNatClampNeg ((s (q + 14) (D_X8_name s a1 x3).toNatClampNeg) + 1)) (D_X8_name s a1 x3)))) from ((if_neg c0).trans ((if_neg c1).trans ((if_neg c2).trans ((if_pos c3).trans rfl))))) (lt_nle c0) rfl)
        · refine rx_ifF rfl (bf c3) rfl ?_
          refine rx_k 1 (70, [(4, .int (D_X8_name s a1 x3)), (0, .ref (b + (q + 12))), (1, .int a1), (2, .int a2), (3, .int x3)], [.ref (b + (q + 12))]) (fun _ _ => rfl) ?_
          refine rx_getf rfl rfl (wl_12 hP hq) rfl ?_
          refine rx_k 1 (75, [(4, .int (D_X8_name s a1 x3)), (0, .ref (b + (q + 12))), (1, .int a1), (2, .int a2), (3, .int x3)], [.int (D_X8_name s a1 x3), .ref (b + (q + 5))]) (fun _ _ => rfl) ?_
          refine rx_inv rfl rfl (rc_X9_kind hP hq) rfl rfl rfl (q_recv (wl_5 hP hq)) rfl rfl ?_
          refine rx_k 1 (79, [(4, .int (D_X8_name s a1 x3)), (0, .ref (b + (q + 12))), (1, .int a1), (2, .int a2), (3, .int x3)], [.int (-1), .int (D_X9_kind q (D_X7_reachName q (up s (q + 14) (D_X8_name s a1 x3).toNatClampNeg ((s (q + 14) (D_X8_name s a1 x3).toNatClampNeg) + 1)) (D_X8_name s a1 x3)) (D_X8_name s a1 x3))]) (fun _ _ => rfl) ?_
          by_cases c4 : (D_X9_kind q (D_X7_reachName q (up s (q + 14) (D_X8_name s a1 x3).toNatClampNeg ((s (q + 14) (D_X8_name s a1 x3).toNatClampNeg) + 1)) (D_X8_name s a1 x3)) (D_X8_name s a1 x3)) = (-1)
          · refine rx_icF rfl (nf c4) rfl ?_
            refine rx_k 2 (84, [(4, .int (D_X8_name s a1 x3)), (0, .ref (b + (q + 12))), (1, .int a1), (2, .int a2), (3, .int x3)], [.ref (b + (q + 12)), .ref (b + (q + 12))]) (fun _ _ => rfl) ?_
            refine rx_getf rfl rfl (wl_12 hP hq) rfl ?_
            refine rx_k 4 (92, [(4, .int (D_X8_name s a1 x3)), (0, .ref (b + (q + 12))), (1, .int a1), (2, .int a2), (3, .int x3)], [.int (((D_X7_reachName q (up s (q + 14) (D_X8_name s a1 x3).toNatClampNeg ((s (q + 14) (D_X8_name s a1 x3).toNatClampNeg) + 1)) (D_X8_name s a1 x3)) (q + 12) 7) ||| (1 <<< ((D_X8_name s a1 x3) &&& 31))), .ref (b + (q + 12))]) (fun _ _ => rfl) ?_
            refine rx_putf rfl rfl (wl_12 hP hq) rfl (wz_12_7 hP hq) ?_
            refine rx_k 2 (2, [(3, .int (x3 + 1)), (4, .int (D_X8_name s a1 x3)), (0, .ref (b + (q + 12))), (1, .int a1), (2, .int a2)], []) (fun _ _ => rfl) ?_
            refine rx_lo am_X7_follow (lo := [(0, .ref (b + (q + 12))), (1, .int a1), (2, .int a2), (3, .int (x3 + 1))]) (List.forall_mem_cons.mpr ⟨List.mem_of_getElem? (i := 2) rfl, (List.forall_mem_cons.mpr ⟨List.mem_of_getElem? (i := 3) rfl, (List.forall_mem_cons.mpr ⟨List.mem_of_getElem? (i := 4) rfl, (List.forall_mem_cons.mpr ⟨List.mem_of_getElem? (i := 0) rfl, (fun _ h => absurd h List.not_mem_nil)⟩)⟩)⟩)⟩) rfl (hc _ _ (show (B_X7_follow_2 q a1 a2 x3 s) = (true, ((x3 + 1), (up (D_X7_reachName q (up s (q + 14) (D_X8_name s a1 x3).toNatClampNeg ((s (q + 14) (D_X8_name s a1 x3).toNatClampNeg) + 1)) (D_X8_name s a1 x3)) (q + 12) 7 (((D_X7_reachName q (up s (q + 14) (D_X8_name s a1 x3).toNatClampNeg ((s (q + 14) (D_X8_name s a1 x3).toNatClampNeg) + 1)) (D_X8_name s a1 x3)) (q + 12) 7) ||| (1 <<< ((D_X8_name s a1 x3) &&& 31)))))) from ((if_neg c0).trans ((if_neg c1).trans ((if_neg c2).trans ((if_neg c3).trans ((if_pos c4).trans rfl)))))) (lt_nle c0) rfl)
          · refine rx_icT rfl (nt c4) ?_
            refine rx_k 2 (2, [(3, .int (x3 + 1)), (4, .int (D_X8_name s a1 x3)), (0, .ref (b + (q + 12))), (1, .int a1), (2, .int a2)], []) (fun _ _ => rfl) ?_
            refine rx_lo am_X7_follow (lo := [(0, .ref (b + (q + 12))), (1, .int a1), (2, .int a2), (3, .int (x3 + 1))]) (List.forall_mem_cons.mpr ⟨List.mem_of_getElem? (i := 2) rfl, (List.forall_mem_cons.mpr ⟨List.mem_of_getElem? (i := 3) rfl, (List.forall_mem_cons.mpr ⟨List.mem_of_getElem? (i := 4) rfl, (List.forall_mem_cons.mpr ⟨List.mem_of_getElem? (i := 0) rfl, (fun _ h => absurd h List.not_mem_nil)⟩)⟩)⟩)⟩) rfl (hc _ _ (show (B_X7_follow_2 q a1 a2 x3 s) = (true, ((x3 + 1), (D_X7_reachName q (up s (q + 14) (D_X8_name s a1 x3).toNatClampNeg ((s (q + 14) (D_X8_name s a1 x3).toNatClampNeg) + 1)) (D_X8_name s a1 x3)))) from ((if_neg c0).trans ((if_neg c1).trans ((if_neg c2).trans ((if_neg c3).trans ((if_neg c4).trans rfl)))))) (lt_nle c0) rfl)
theorem nb_X7_follow_2 {q : Nat} (hq : q = 38 ∨ q = 60) {a1 : Int32} {a2 : Int32} {x3 : Int32} {s : Sg} (hN : NN s) : ∃ (f : Bool) (t3 : Int32) (ts : Sg), (B_X7_follow_2 q a1 a2 x3 s) = (f, (t3, ts)) ∧ NN ts := by
  by_cases c0 : (D_X8_pieces s a1) ≤ x3
  · exact ⟨_, _, _, (show (B_X7_follow_2 q a1 a2 x3 s) = (false, (x3, s)) from ((if_pos c0).trans rfl)), hN⟩
  · by_cases c1 : (D_X8_isReference s a1 x3) = 0
    · exact ⟨_, _, _, (show (B_X7_follow_2 q a1 a2 x3 s) = (true, ((x3 + 1), s)) from ((if_neg c0).trans ((if_pos c1).trans rfl))), hN⟩
    · by_cases c2 : (D_X11_isName (D_X8_name s a1 x3)) = 0
      · exact ⟨_, _, _, (show (B_X7_follow_2 q a1 a2 x3 s) = (true, ((x3 + 1), s)) from ((if_neg c0).trans ((if_neg c1).trans ((if_pos c2).trans rfl)))), hN⟩
      · by_cases c3 : a2 = 0
        · exact ⟨_, _, _, (show (B_X7_follow_2 q a1 a2 x3 s) = (true, ((x3 + 1), (D_X7_reachName q (up s (q + 14) (D_X8_name s a1 x3).toNatClampNeg ((s (q + 14) (D_X8_name s a1 x3).toNatClampNeg) + 1)) (D_X8_name s a1 x3)))) from ((if_neg c0).trans ((if_neg c1).trans ((if_neg c2).trans ((if_pos c3).trans rfl))))), (nn_X7_reachName hq (nn_0 (by rcases hq with rfl | rfl <;> rfl) hN))⟩
        · by_cases c4 : (D_X9_kind q (D_X7_reachName q (up s (q + 14) (D_X8_name s a1 x3).toNatClampNeg ((s (q + 14) (D_X8_name s a1 x3).toNatClampNeg) + 1)) (D_X8_name s a1 x3)) (D_X8_name s a1 x3)) = (-1)
          · exact ⟨_, _, _, (show (B_X7_follow_2 q a1 a2 x3 s) = (true, ((x3 + 1), (up (D_X7_reachName q (up s (q + 14) (D_X8_name s a1 x3).toNatClampNeg ((s (q + 14) (D_X8_name s a1 x3).toNatClampNeg) + 1)) (D_X8_name s a1 x3)) (q + 12) 7 (((D_X7_reachName q (up s (q + 14) (D_X8_name s a1 x3).toNatClampNeg ((s (q + 14) (D_X8_name s a1 x3).toNatClampNeg) + 1)) (D_X8_name s a1 x3)) (q + 12) 7) ||| (1 <<< ((D_X8_name s a1 x3) &&& 31)))))) from ((if_neg c0).trans ((if_neg c1).trans ((if_neg c2).trans ((if_neg c3).trans ((if_pos c4).trans rfl)))))), (nn_f (by rcases hq with rfl | rfl <;> rfl) (nn_X7_reachName hq (nn_0 (by rcases hq with rfl | rfl <;> rfl) hN)))⟩
          · exact ⟨_, _, _, (show (B_X7_follow_2 q a1 a2 x3 s) = (true, ((x3 + 1), (D_X7_reachName q (up s (q + 14) (D_X8_name s a1 x3).toNatClampNeg ((s (q + 14) (D_X8_name s a1 x3).toNatClampNeg) + 1)) (D_X8_name s a1 x3)))) from ((if_neg c0).trans ((if_neg c1).trans ((if_neg c2).trans ((if_neg c3).trans ((if_neg c4).trans rfl)))))), (nn_X7_reachName hq (nn_0 (by rcases hq with rfl | rfl <;> rfl) hN))⟩
noncomputable def R_X7_follow_101 (q : Nat) (s : Sg) : Sg := s
theorem r_X7_follow_101 (hP : WOK b w H0) {q : Nat} (hq : q = 38 ∨ q = 60) {s : Sg} (hN : NN s) : Rx sc g_X7_follow 3 ((101, [], [])) (wd b w wl H0 s, kn) none (wd b w wl H0 (R_X7_follow_101 q s), kn) := by
  show Rx sc g_X7_follow 3 (101, [], []) (wd b w wl H0 s, kn) none (wd b w wl H0 (R_X7_follow_101 q s), kn)
  rw [(show (R_X7_follow_101 q s) = s from rfl)]
  exact rx_rv rfl
theorem nr_X7_follow_101 {q : Nat} (hq : q = 38 ∨ q = 60) {s : Sg} (hN : NN s) : NN ((R_X7_follow_101 q s)) := by
  rw [show (R_X7_follow_101 q s) = s from rfl]
  exact hN
noncomputable def D_X7_follow (q : Nat) (s : Sg) (a1 : Int32) (a2 : Int32) : Sg := (R_X7_follow_101 q ((itr (uc2 (B_X7_follow_2 q a1 a2)) BIG (0, s)).2))
theorem m_X7_follow (hP : WOK b w H0) {q : Nat} (hq : q = 38 ∨ q = 60) {s : Sg} {a1 : Int32} {a2 : Int32} (hN : NN s) (za2 : bz a2 = true) : Rx sc g_X7_follow 3 ((0, [(0, .ref (b + (q + 12))), (1, .int a1), (2, .int a2)], [])) (wd b w wl H0 s, kn) none (wd b w wl H0 (D_X7_follow q s a1 a2), kn) := by
  show Rx sc g_X7_follow 3 (0, [(0, .ref (b + (q + 12))), (1, .int a1), (2, .int a2)], []) (wd b w wl H0 s, kn) none (wd b w wl H0 (D_X7_follow q s a1 a2), kn)
  refine rx_k 2 (2, [(3, .int 0), (0, .ref (b + (q + 12))), (1, .int a1), (2, .int a2)], []) (fun _ _ => rfl) ?_
  refine rx_lo am_X7_follow (lo := [(0, .ref (b + (q + 12))), (1, .int a1), (2, .int a2), (3, .int 0)]) (List.forall_mem_cons.mpr ⟨List.mem_of_getElem? (i := 1) rfl, (List.forall_mem_cons.mpr ⟨List.mem_of_getElem? (i := 2) rfl, (List.forall_mem_cons.mpr ⟨List.mem_of_getElem? (i := 3) rfl, (List.forall_mem_cons.mpr ⟨List.mem_of_getElem? (i := 0) rfl, (fun _ h => absurd h List.not_mem_nil)⟩)⟩)⟩)⟩) rfl ?_
  refine rx_loop2s (B := B_X7_follow_2 q a1 a2) (fr := (fr_X7_follow_2 b w q a1 a2)) (E := (fe_X7_follow_2 b w q a1 a2)) (I := fun z3 zs => NN zs) (fun z3 zs oo hh9 hI9 hv9 hc9 he9 => b_X7_follow_2 hP hq za2 oo hh9 hI9 hv9 hc9 he9) (fun z3 zs hz => nb_X7_follow_2 hq hz) BIG 0 s _ _ hN (by decide : (0 : Int) ≤ (0 : Int32).toInt) (le_enough (by decide : (0 : Int) ≤ (0 : Int32).toInt)) ?_
  rw [(show (D_X7_follow q s a1 a2) = (R_X7_follow_101 q ((itr (uc2 (B_X7_follow_2 q a1 a2)) BIG (0, s)).2)) from rfl)]
  exact r_X7_follow_101 hP hq (itr_inv2 (B := B_X7_follow_2 q a1 a2) (I := fun z3 zs => NN zs) (fun z3 zs hz => nb_X7_follow_2 hq hz) BIG 0 s hN)
theorem rc_X7_follow (hP : WOK b w H0) {q : Nat} (hq : q = 38 ∨ q = 60) {s : Sg} {a1 : Int32} {a2 : Int32} (hN : NN s) (za2 : bz a2 = true) : Rc sc 4 113 [.ref (b + (q + 12)), .int a1, .int a2] (wd b w wl H0 s, kn) none (wd b w wl H0 (D_X7_follow q s a1 a2), kn) := rx_mc (m_X7_follow hP hq hN za2) rfl rfl (Nat.ble_eq_true_of_le (Nat.le_refl _)) (Nat.ble_eq_true_of_le (Nat.le_refl _))
theorem nn_X7_follow {q : Nat} (hq : q = 38 ∨ q = 60) {s : Sg} {a1 : Int32} {a2 : Int32} (hN : NN s) : NN (D_X7_follow q s a1 a2) := by
  rw [show (D_X7_follow q s a1 a2) = (R_X7_follow_101 q ((itr (uc2 (B_X7_follow_2 q a1 a2)) BIG (0, s)).2)) from rfl]
  exact (nr_X7_follow_101 hq (itr_inv2 (B := B_X7_follow_2 q a1 a2) (I := fun z3 zs => NN zs) (fun z3 zs hz => nb_X7_follow_2 hq hz) BIG 0 s hN))
theorem fwb_X7_follow_2 {q : Nat} {a1 : Int32} {a2 : Int32} {x3 : Int32} {s : Sg} {k j : Nat} (l12f4 : k ≠ q + 12 ∨ j ≠ 4) (l12f5 : k ≠ q + 12 ∨ j ≠ 5) (l12f6 : k ≠ q + 12 ∨ j ≠ 6) (l12f7 : k ≠ q + 12 ∨ j ≠ 7) (l13 : k ≠ q + 13) (l14 : k ≠ q + 14) : ∃ (f : Bool) (t3 : Int32) (ts : Sg), (B_X7_follow_2 q a1 a2 x3 s) = (f, (t3, ts)) ∧ ts k j = s k j := by
  by_cases c0 : (D_X8_pieces s a1) ≤ x3
  · exact ⟨_, _, _, (show (B_X7_follow_2 q a1 a2 x3 s) = (false, (x3, s)) from ((if_pos c0).trans rfl)), rfl⟩
  · by_cases c1 : (D_X8_isReference s a1 x3) = 0
    · exact ⟨_, _, _, (show (B_X7_follow_2 q a1 a2 x3 s) = (true, ((x3 + 1), s)) from ((if_neg c0).trans ((if_pos c1).trans rfl))), rfl⟩
    · by_cases c2 : (D_X11_isName (D_X8_name s a1 x3)) = 0
      · exact ⟨_, _, _, (show (B_X7_follow_2 q a1 a2 x3 s) = (true, ((x3 + 1), s)) from ((if_neg c0).trans ((if_neg c1).trans ((if_pos c2).trans rfl)))), rfl⟩
      · by_cases c3 : a2 = 0
        · exact ⟨_, _, _, (show (B_X7_follow_2 q a1 a2 x3 s) = (true, ((x3 + 1), (D_X7_reachName q (up s (q + 14) (D_X8_name s a1 x3).toNatClampNeg ((s (q + 14) (D_X8_name s a1 x3).toNatClampNeg) + 1)) (D_X8_name s a1 x3)))) from ((if_neg c0).trans ((if_neg c1).trans ((if_neg c2).trans ((if_pos c3).trans rfl))))), ((fw_X7_reachName l12f4 l12f5 l12f6 l13).trans ((up_a l14).trans rfl))⟩
        · by_cases c4 : (D_X9_kind q (D_X7_reachName q (up s (q + 14) (D_X8_name s a1 x3).toNatClampNeg ((s (q + 14) (D_X8_name s a1 x3).toNatClampNeg) + 1)) (D_X8_name s a1 x3)) (D_X8_name s a1 x3)) = (-1)
          · exact ⟨_, _, _, (show (B_X7_follow_2 q a1 a2 x3 s) = (true, ((x3 + 1), (up (D_X7_reachName q (up s (q + 14) (D_X8_name s a1 x3).toNatClampNeg ((s (q + 14) (D_X8_name s a1 x3).toNatClampNeg) + 1)) (D_X8_name s a1 x3)) (q + 12) 7 (((D_X7_reachName q (up s (q + 14) (D_X8_name s a1 x3).toNatClampNeg ((s (q + 14) (D_X8_name s a1 x3).toNatClampNeg) + 1)) (D_X8_name s a1 x3)) (q + 12) 7) ||| (1 <<< ((D_X8_name s a1 x3) &&& 31)))))) from ((if_neg c0).trans ((if_neg c1).trans ((if_neg c2).trans ((if_neg c3).trans ((if_pos c4).trans rfl)))))), ((up_f l12f7).trans ((fw_X7_reachName l12f4 l12f5 l12f6 l13).trans ((up_a l14).trans rfl)))⟩
          · exact ⟨_, _, _, (show (B_X7_follow_2 q a1 a2 x3 s) = (true, ((x3 + 1), (D_X7_reachName q (up s (q + 14) (D_X8_name s a1 x3).toNatClampNeg ((s (q + 14) (D_X8_name s a1 x3).toNatClampNeg) + 1)) (D_X8_name s a1 x3)))) from ((if_neg c0).trans ((if_neg c1).trans ((if_neg c2).trans ((if_neg c3).trans ((if_neg c4).trans rfl)))))), ((fw_X7_reachName l12f4 l12f5 l12f6 l13).trans ((up_a l14).trans rfl))⟩
theorem fwr_X7_follow_101 {q : Nat} {s : Sg} {k j : Nat} (l12f4 : k ≠ q + 12 ∨ j ≠ 4) (l12f5 : k ≠ q + 12 ∨ j ≠ 5) (l12f6 : k ≠ q + 12 ∨ j ≠ 6) (l12f7 : k ≠ q + 12 ∨ j ≠ 7) (l13 : k ≠ q + 13) (l14 : k ≠ q + 14) : (R_X7_follow_101 q s) k j = s k j := by
  rw [show (R_X7_follow_101 q s) = s from rfl]
  first | done | exact rfl
theorem fw_X7_follow {q : Nat} {s : Sg} {a1 : Int32} {a2 : Int32} {k j : Nat} (l12f4 : k ≠ q + 12 ∨ j ≠ 4) (l12f5 : k ≠ q + 12 ∨ j ≠ 5) (l12f6 : k ≠ q + 12 ∨ j ≠ 6) (l12f7 : k ≠ q + 12 ∨ j ≠ 7) (l13 : k ≠ q + 13) (l14 : k ≠ q + 14) : (D_X7_follow q s a1 a2) k j = s k j := by
  rw [show (D_X7_follow q s a1 a2) = (R_X7_follow_101 q ((itr (uc2 (B_X7_follow_2 q a1 a2)) BIG (0, s)).2)) from rfl]
  first | done | exact ((fwr_X7_follow_101 l12f4 l12f5 l12f6 l12f7 l13 l14).trans ((itr_inv2 (B := B_X7_follow_2 q a1 a2) (I := fun z3 zs => zs k j = s k j) (fun z3 zs hz => exq2 (fwb_X7_follow_2 l12f4 l12f5 l12f6 l12f7 l13 l14) hz) BIG 0 s rfl).trans rfl))
-- LinkHarbour$Reaching.reachAll
def fr_X7_reachAll_6 (b w : Nat) (q : Nat) (a1 : Int32) (a2 : Int32) (x3 : Int32) : EF := (6, [(0, .ref (b + (q + 12))), (1, .int a1), (2, .int a2), (3, .int x3)], [])
def fe_X7_reachAll_6 (b w : Nat) (q : Nat) (a1 : Int32) (a2 : Int32) (x3 : Int32) : EF := (57, [(0, .ref (b + (q + 12))), (1, .int a1), (2, .int a2)], [])
noncomputable def B_X7_reachAll_6 (q : Nat) (a1 : Int32) (a2 : Int32) (x3 : Int32) (s : Sg) : Bool × (Int32 × Sg) := (if (D_X8_count s) ≤ x3 then (false, (x3, s)) else (if (D_X8_isKept s x3) = 0 then (true, ((x3 + 1), s)) else (if (D_X10_isTaken q s (D_X8_objectOf s x3)) = 0 then (true, ((x3 + 1), s)) else (true, ((x3 + 1), (D_X7_reachSection q s x3))))))
theorem b_X7_reachAll_6 (hP : WOK b w H0) {q : Nat} (hq : q = 38 ∨ q = 60) {s : Sg} {a1 : Int32} {a2 : Int32} {x3 : Int32} (z2 : bz a2 = true) (o : Option Value) (h' : EH) (hN : NN s) (hv : 0 ≤ x3.toInt) (hc : ∀ (t3 : Int32) (ts : Sg), (B_X7_reachAll_6 q a1 a2 x3 s) = (true, (t3, ts)) → x3.toInt < 2147483647 → t3 = x3 + 1 → Rx sc g_X7_reachAll 4 (fr_X7_reachAll_6 b w q a1 a2 t3) (wd b w wl H0 ts, kn) o h') (he : ∀ (t3 : Int32) (ts : Sg), (B_X7_reachAll_6 q a1 a2 x3 s) = (false, (t3, ts)) → Rx sc g_X7_reachAll 4 (fe_X7_reachAll_6 b w q a1 a2 t3) (wd b w wl H0 ts, kn) o h') : Rx sc g_X7_reachAll 4 (fr_X7_reachAll_6 b w q a1 a2 x3) (wd b w wl H0 s, kn) o h' := by
  show Rx sc g_X7_reachAll 4 (6, [(0, .ref (b + (q + 12))), (1, .int a1), (2, .int a2), (3, .int x3)], []) (wd b w wl H0 s, kn) o h'
  refine rx_k 2 (8, [(0, .ref (b + (q + 12))), (1, .int a1), (2, .int a2), (3, .int x3)], [.ref (b + (q + 12)), .int x3]) (fun _ _ => rfl) ?_
  refine rx_getf rfl rfl (wl_12 hP hq) rfl ?_
  refine rx_inv rfl rfl (rc_X8_count hP) rfl rfl rfl (q_recv (wg_11 hP)) rfl rfl ?_
  by_cases c0 : (D_X8_count s) ≤ x3
  · refine rx_icT rfl (bt c0) ?_
    exact rx_lo am_X7_reachAll (lo := [(0, .ref (b + (q + 12))), (1, .int a1), (2, .int a2)]) (List.forall_mem_cons.mpr ⟨List.mem_of_getElem? (i := 0) rfl, (List.forall_mem_cons.mpr ⟨List.mem_of_getElem? (i := 1) rfl, (List.forall_mem_cons.mpr ⟨List.mem_of_getElem? (i := 2) rfl, (fun _ h => absurd h List.not_mem_nil)⟩)⟩)⟩) rfl (he _ _ (show (B_X7_reachAll_6 q a1 a2 x3 s) = (false, (x3, s)) from ((if_pos c0).trans rfl)))
  · refine rx_icF rfl (bf c0) rfl ?_
    refine rx_k 1 (18, [(0, .ref (b + (q + 12))), (1, .int a1), (2, .int a2), (3, .int x3)], [.ref (b + (q + 12))]) (fun _ _ => rfl) ?_
    refine rx_getf rfl rfl (wl_12 hP hq) rfl ?_
    refine rx_k 1 (22, [(0, .ref (b + (q + 12))), (1, .int a1), (2, .int a2), (3, .int x3)], [.int x3, .ref (b + 11)]) (fun _ _ => rfl) ?_
    refine rx_inv rfl rfl (rc_X8_isKept hP) rfl rfl rfl (q_recv (wg_11 hP)) rfl rfl ?_
    by_cases c1 : (D_X8_isKept s x3) = 0
    · refine rx_ifT rfl (bt c1) ?_
      refine rx_k 2 (6, [(3, .int (x3 + 1)), (0, .ref (b + (q + 12))), (1, .int a1), (2, .int a2)], []) (fun _ _ => rfl) ?_
      refine rx_lo am_X7_reachAll (lo := [(0, .ref (b + (q + 12))), (1, .int a1), (2, .int a2), (3, .int (x3 + 1))]) (List.forall_mem_cons.mpr ⟨List.mem_of_getElem? (i := 1) rfl, (List.forall_mem_cons.mpr ⟨List.mem_of_getElem? (i := 2) rfl, (List.forall_mem_cons.mpr ⟨List.mem_of_getElem? (i := 3) rfl, (List.forall_mem_cons.mpr ⟨List.mem_of_getElem? (i := 0) rfl, (fun _ h => absurd h List.not_mem_nil)⟩)⟩)⟩)⟩) rfl (hc _ _ (show (B_X7_reachAll_6 q a1 a2 x3 s) = (true, ((x3 + 1), s)) from ((if_neg c0).trans ((if_pos c1).trans rfl))) (lt_nle c0) rfl)
    · refine rx_ifF rfl (bf c1) rfl ?_
      refine rx_k 1 (29, [(0, .ref (b + (q + 12))), (1, .int a1), (2, .int a2), (3, .int x3)], [.ref (b + (q + 12))]) (fun _ _ => rfl) ?_
      refine rx_getf rfl rfl (wl_12 hP hq) rfl ?_
      refine rx_k 1 (33, [(0, .ref (b + (q + 12))), (1, .int a1), (2, .int a2), (3, .int x3)], [.ref (b + (q + 12)), .ref (b + (q + 3))]) (fun _ _ => rfl) ?_
      refine rx_getf rfl rfl (wl_12 hP hq) rfl ?_
      refine rx_k 1 (37, [(0, .ref (b + (q + 12))), (1, .int a1), (2, .int a2), (3, .int x3)], [.int x3, .ref (b + 11), .ref (b + (q + 3))]) (fun _ _ => rfl) ?_
      refine rx_inv rfl rfl (rc_X8_objectOf hP) rfl rfl rfl (q_recv (wg_11 hP)) rfl rfl ?_
      refine rx_inv rfl rfl (rc_X10_isTaken hP hq) rfl rfl rfl (q_recv (wl_3 hP hq)) rfl rfl ?_
      by_cases c2 : (D_X10_isTaken q s (D_X8_objectOf s x3)) = 0
      · refine rx_ifT rfl (bt c2) ?_
        refine rx_k 2 (6, [(3, .int (x3 + 1)), (0, .ref (b + (q + 12))), (1, .int a1), (2, .int a2)], []) (fun _ _ => rfl) ?_
        refine rx_lo am_X7_reachAll (lo := [(0, .ref (b + (q + 12))), (1, .int a1), (2, .int a2), (3, .int (x3 + 1))]) (List.forall_mem_cons.mpr ⟨List.mem_of_getElem? (i := 1) rfl, (List.forall_mem_cons.mpr ⟨List.mem_of_getElem? (i := 2) rfl, (List.forall_mem_cons.mpr ⟨List.mem_of_getElem? (i := 3) rfl, (List.forall_mem_cons.mpr ⟨List.mem_of_getElem? (i := 0) rfl, (fun _ h => absurd h List.not_mem_nil)⟩)⟩)⟩)⟩) rfl (hc _ _ (show (B_X7_reachAll_6 q a1 a2 x3 s) = (true, ((x3 + 1), s)) from ((if_neg c0).trans ((if_neg c1).trans ((if_pos c2).trans rfl)))) (lt_nle c0) rfl)
      · refine rx_ifF rfl (bf c2) rfl ?_
        refine rx_k 2 (48, [(0, .ref (b + (q + 12))), (1, .int a1), (2, .int a2), (3, .int x3)], [.int x3, .ref (b + (q + 12))]) (fun _ _ => rfl) ?_
        refine rx_inv rfl rfl (rc_X7_reachSection hP hq hN) rfl rfl rfl (q_recv (wl_12 hP hq)) rfl rfl ?_
        refine rx_k 2 (6, [(3, .int (x3 + 1)), (0, .ref (b + (q + 12))), (1, .int a1), (2, .int a2)], []) (fun _ _ => rfl) ?_
        refine rx_lo am_X7_reachAll (lo := [(0, .ref (b + (q + 12))), (1, .int a1), (2, .int a2), (3, .int (x3 + 1))]) (List.forall_mem_cons.mpr ⟨List.mem_of_getElem? (i := 1) rfl, (List.forall_mem_cons.mpr ⟨List.mem_of_getElem? (i := 2) rfl, (List.forall_mem_cons.mpr ⟨List.mem_of_getElem? (i := 3) rfl, (List.forall_mem_cons.mpr ⟨List.mem_of_getElem? (i := 0) rfl, (fun _ h => absurd h List.not_mem_nil)⟩)⟩)⟩)⟩) rfl (hc _ _ (show (B_X7_reachAll_6 q a1 a2 x3 s) = (true, ((x3 + 1), (D_X7_reachSection q s x3))) from ((if_neg c0).trans ((if_neg c1).trans ((if_neg c2).trans rfl)))) (lt_nle c0) rfl)
theorem nb_X7_reachAll_6 {q : Nat} (hq : q = 38 ∨ q = 60) {a1 : Int32} {a2 : Int32} {x3 : Int32} {s : Sg} (hN : NN s) : ∃ (f : Bool) (t3 : Int32) (ts : Sg), (B_X7_reachAll_6 q a1 a2 x3 s) = (f, (t3, ts)) ∧ NN ts := by
  by_cases c0 : (D_X8_count s) ≤ x3
  · exact ⟨_, _, _, (show (B_X7_reachAll_6 q a1 a2 x3 s) = (false, (x3, s)) from ((if_pos c0).trans rfl)), hN⟩
  · by_cases c1 : (D_X8_isKept s x3) = 0
    · exact ⟨_, _, _, (show (B_X7_reachAll_6 q a1 a2 x3 s) = (true, ((x3 + 1), s)) from ((if_neg c0).trans ((if_pos c1).trans rfl))), hN⟩
    · by_cases c2 : (D_X10_isTaken q s (D_X8_objectOf s x3)) = 0
      · exact ⟨_, _, _, (show (B_X7_reachAll_6 q a1 a2 x3 s) = (true, ((x3 + 1), s)) from ((if_neg c0).trans ((if_neg c1).trans ((if_pos c2).trans rfl)))), hN⟩
      · exact ⟨_, _, _, (show (B_X7_reachAll_6 q a1 a2 x3 s) = (true, ((x3 + 1), (D_X7_reachSection q s x3))) from ((if_neg c0).trans ((if_neg c1).trans ((if_neg c2).trans rfl)))), (nn_X7_reachSection hq hN)⟩
def fr_X7_reachAll_64 (b w : Nat) (q : Nat) (a2 : Int32) (x3 : Int32) : EF := (64, [(0, .ref (b + (q + 12))), (2, .int a2), (3, .int x3)], [])
def fe_X7_reachAll_64 (b w : Nat) (q : Nat) (a2 : Int32) (x3 : Int32) : EF := (96, [(0, .ref (b + (q + 12))), (2, .int a2)], [])
noncomputable def B_X7_reachAll_64 (q : Nat) (a2 : Int32) (x3 : Int32) (s : Sg) : Bool × (Int32 × Sg) := (if a2 = 0 then (false, (x3, s)) else (if 20 ≤ x3 then (false, (x3, s)) else (if (D_X9_isHidden q s x3) = 0 then (true, ((x3 + 1), (D_X7_reachName q s x3))) else (true, ((x3 + 1), s)))))
theorem b_X7_reachAll_64 (hP : WOK b w H0) {q : Nat} (hq : q = 38 ∨ q = 60) {s : Sg} {a2 : Int32} {x3 : Int32} (z2 : bz a2 = true) (o : Option Value) (h' : EH) (hN : NN s) (hv : 0 ≤ x3.toInt) (hc : ∀ (t3 : Int32) (ts : Sg), (B_X7_reachAll_64 q a2 x3 s) = (true, (t3, ts)) → x3.toInt < 2147483647 → t3 = x3 + 1 → Rx sc g_X7_reachAll 4 (fr_X7_reachAll_64 b w q a2 t3) (wd b w wl H0 ts, kn) o h') (he : ∀ (t3 : Int32) (ts : Sg), (B_X7_reachAll_64 q a2 x3 s) = (false, (t3, ts)) → Rx sc g_X7_reachAll 4 (fe_X7_reachAll_64 b w q a2 t3) (wd b w wl H0 ts, kn) o h') : Rx sc g_X7_reachAll 4 (fr_X7_reachAll_64 b w q a2 x3) (wd b w wl H0 s, kn) o h' := by
  show Rx sc g_X7_reachAll 4 (64, [(0, .ref (b + (q + 12))), (2, .int a2), (3, .int x3)], []) (wd b w wl H0 s, kn) o h'
  refine rx_k 1 (65, [(0, .ref (b + (q + 12))), (2, .int a2), (3, .int x3)], [.int a2]) (fun _ _ => rfl) ?_
  by_cases c0 : a2 = 0
  · refine rx_ifT rfl (bt c0) ?_
    exact rx_lo am_X7_reachAll (lo := [(0, .ref (b + (q + 12))), (2, .int a2)]) (List.forall_mem_cons.mpr ⟨List.mem_of_getElem? (i := 0) rfl, (List.forall_mem_cons.mpr ⟨List.mem_of_getElem? (i := 1) rfl, (fun _ h => absurd h List.not_mem_nil)⟩)⟩) rfl (he _ _ (show (B_X7_reachAll_64 q a2 x3 s) = (false, (x3, s)) from ((if_pos c0).trans rfl)))
  · refine rx_ifF rfl (bf c0) rfl ?_
    refine rx_k 2 (71, [(0, .ref (b + (q + 12))), (2, .int a2), (3, .int x3)], [.int 20, .int x3]) (fun _ _ => rfl) ?_
    by_cases c1 : 20 ≤ x3
    · refine rx_icT rfl (bt c1) ?_
      exact rx_lo am_X7_reachAll (lo := [(0, .ref (b + (q + 12))), (2, .int a2)]) (List.forall_mem_cons.mpr ⟨List.mem_of_getElem? (i := 0) rfl, (List.forall_mem_cons.mpr ⟨List.mem_of_getElem? (i := 1) rfl, (fun _ h => absurd h List.not_mem_nil)⟩)⟩) rfl (he _ _ (show (B_X7_reachAll_64 q a2 x3 s) = (false, (x3, s)) from ((if_neg c0).trans ((if_pos c1).trans rfl))))
    · refine rx_icF rfl (bf c1) rfl ?_
      refine rx_k 1 (75, [(0, .ref (b + (q + 12))), (2, .int a2), (3, .int x3)], [.ref (b + (q + 12))]) (fun _ _ => rfl) ?_
      refine rx_getf rfl rfl (wl_12 hP hq) rfl ?_
      refine rx_k 1 (79, [(0, .ref (b + (q + 12))), (2, .int a2), (3, .int x3)], [.int x3, .ref (b + (q + 5))]) (fun _ _ => rfl) ?_
      refine rx_inv rfl rfl (rc_X9_isHidden hP hq) rfl rfl rfl (q_recv (wl_5 hP hq)) rfl rfl ?_
      by_cases c2 : (D_X9_isHidden q s x3) = 0
      · refine rx_ifF rfl (nf c2) rfl ?_
        refine rx_k 2 (87, [(0, .ref (b + (q + 12))), (2, .int a2), (3, .int x3)], [.int x3, .ref (b + (q + 12))]) (fun _ _ => rfl) ?_
        refine rx_inv rfl rfl (rc_X7_reachName hP hq hN) rfl rfl rfl (q_recv (wl_12 hP hq)) rfl rfl ?_
        refine rx_k 2 (64, [(3, .int (x3 + 1)), (0, .ref (b + (q + 12))), (2, .int a2)], []) (fun _ _ => rfl) ?_
        refine rx_lo am_X7_reachAll (lo := [(0, .ref (b + (q + 12))), (2, .int a2), (3, .int (x3 + 1))]) (List.forall_mem_cons.mpr ⟨List.mem_of_getElem? (i := 1) rfl, (List.forall_mem_cons.mpr ⟨List.mem_of_getElem? (i := 2) rfl, (List.forall_mem_cons.mpr ⟨List.mem_of_getElem? (i := 0) rfl, (fun _ h => absurd h List.not_mem_nil)⟩)⟩)⟩) rfl (hc _ _ (show (B_X7_reachAll_64 q a2 x3 s) = (true, ((x3 + 1), (D_X7_reachName q s x3))) from ((if_neg c0).trans ((if_neg c1).trans ((if_pos c2).trans rfl)))) (lt_nle c1) rfl)
      · refine rx_ifT rfl (nt c2) ?_
        refine rx_k 2 (64, [(3, .int (x3 + 1)), (0, .ref (b + (q + 12))), (2, .int a2)], []) (fun _ _ => rfl) ?_
        refine rx_lo am_X7_reachAll (lo := [(0, .ref (b + (q + 12))), (2, .int a2), (3, .int (x3 + 1))]) (List.forall_mem_cons.mpr ⟨List.mem_of_getElem? (i := 1) rfl, (List.forall_mem_cons.mpr ⟨List.mem_of_getElem? (i := 2) rfl, (List.forall_mem_cons.mpr ⟨List.mem_of_getElem? (i := 0) rfl, (fun _ h => absurd h List.not_mem_nil)⟩)⟩)⟩) rfl (hc _ _ (show (B_X7_reachAll_64 q a2 x3 s) = (true, ((x3 + 1), s)) from ((if_neg c0).trans ((if_neg c1).trans ((if_neg c2).trans rfl)))) (lt_nle c1) rfl)
theorem nb_X7_reachAll_64 {q : Nat} (hq : q = 38 ∨ q = 60) {a2 : Int32} {x3 : Int32} {s : Sg} (hN : NN s) : ∃ (f : Bool) (t3 : Int32) (ts : Sg), (B_X7_reachAll_64 q a2 x3 s) = (f, (t3, ts)) ∧ NN ts := by
  by_cases c0 : a2 = 0
  · exact ⟨_, _, _, (show (B_X7_reachAll_64 q a2 x3 s) = (false, (x3, s)) from ((if_pos c0).trans rfl)), hN⟩
  · by_cases c1 : 20 ≤ x3
    · exact ⟨_, _, _, (show (B_X7_reachAll_64 q a2 x3 s) = (false, (x3, s)) from ((if_neg c0).trans ((if_pos c1).trans rfl))), hN⟩
    · by_cases c2 : (D_X9_isHidden q s x3) = 0
      · exact ⟨_, _, _, (show (B_X7_reachAll_64 q a2 x3 s) = (true, ((x3 + 1), (D_X7_reachName q s x3))) from ((if_neg c0).trans ((if_neg c1).trans ((if_pos c2).trans rfl)))), (nn_X7_reachName hq hN)⟩
      · exact ⟨_, _, _, (show (B_X7_reachAll_64 q a2 x3 s) = (true, ((x3 + 1), s)) from ((if_neg c0).trans ((if_neg c1).trans ((if_neg c2).trans rfl)))), hN⟩
def fr_X7_reachAll_98 (b w : Nat) (q : Nat) (a2 : Int32) (x3 : Int32) : EF := (98, [(0, .ref (b + (q + 12))), (2, .int a2), (3, .int x3)], [])
def fe_X7_reachAll_98 (b w : Nat) (q : Nat) (a2 : Int32) (x3 : Int32) : EF := (129, [], [])
noncomputable def B_X7_reachAll_98 (q : Nat) (a2 : Int32) (x3 : Int32) (s : Sg) : Bool × (Int32 × Sg) := (if (s (q + 12) 4) ≤ x3 then (false, (x3, s)) else (if 24 ≤ x3 then (false, (x3, s)) else (true, ((x3 + 1), (D_X7_follow q s (s (q + 13) x3.toNatClampNeg) a2)))))
theorem b_X7_reachAll_98 (hP : WOK b w H0) {q : Nat} (hq : q = 38 ∨ q = 60) {s : Sg} {a2 : Int32} {x3 : Int32} (z2 : bz a2 = true) (o : Option Value) (h' : EH) (hN : NN s) (hv : 0 ≤ x3.toInt) (hc : ∀ (t3 : Int32) (ts : Sg), (B_X7_reachAll_98 q a2 x3 s) = (true, (t3, ts)) → x3.toInt < 2147483647 → t3 = x3 + 1 → Rx sc g_X7_reachAll 4 (fr_X7_reachAll_98 b w q a2 t3) (wd b w wl H0 ts, kn) o h') (he : ∀ (t3 : Int32) (ts : Sg), (B_X7_reachAll_98 q a2 x3 s) = (false, (t3, ts)) → Rx sc g_X7_reachAll 4 (fe_X7_reachAll_98 b w q a2 t3) (wd b w wl H0 ts, kn) o h') : Rx sc g_X7_reachAll 4 (fr_X7_reachAll_98 b w q a2 x3) (wd b w wl H0 s, kn) o h' := by
  show Rx sc g_X7_reachAll 4 (98, [(0, .ref (b + (q + 12))), (2, .int a2), (3, .int x3)], []) (wd b w wl H0 s, kn) o h'
  refine rx_k 2 (100, [(0, .ref (b + (q + 12))), (2, .int a2), (3, .int x3)], [.ref (b + (q + 12)), .int x3]) (fun _ _ => rfl) ?_
  refine rx_getf rfl rfl (wl_12 hP hq) rfl ?_
  by_cases c0 : (s (q + 12) 4) ≤ x3
  · refine rx_icT rfl (bt c0) ?_
    exact rx_lo am_X7_reachAll (lo := []) (fun _ h => absurd h List.not_mem_nil) rfl (he _ _ (show (B_X7_reachAll_98 q a2 x3 s) = (false, (x3, s)) from ((if_pos c0).trans rfl)))
  · refine rx_icF rfl (bf c0) rfl ?_
    refine rx_k 2 (109, [(0, .ref (b + (q + 12))), (2, .int a2), (3, .int x3)], [.int 24, .int x3]) (fun _ _ => rfl) ?_
    by_cases c1 : 24 ≤ x3
    · refine rx_icT rfl (bt c1) ?_
      exact rx_lo am_X7_reachAll (lo := []) (fun _ h => absurd h List.not_mem_nil) rfl (he _ _ (show (B_X7_reachAll_98 q a2 x3 s) = (false, (x3, s)) from ((if_neg c0).trans ((if_pos c1).trans rfl))))
    · refine rx_icF rfl (bf c1) rfl ?_
      refine rx_k 2 (114, [(0, .ref (b + (q + 12))), (2, .int a2), (3, .int x3)], [.ref (b + (q + 12)), .ref (b + (q + 12))]) (fun _ _ => rfl) ?_
      refine rx_getf rfl rfl (wl_12 hP hq) rfl ?_
      refine rx_k 1 (118, [(0, .ref (b + (q + 12))), (2, .int a2), (3, .int x3)], [.int x3, .ref (b + (q + 13)), .ref (b + (q + 12))]) (fun _ _ => rfl) ?_
      refine rx_ild rfl rfl (wl_13 hP hq) (ar_at (rg_c hv c1 (m := 24) (n := 24) rfl)) ?_
      refine rx_k 1 (120, [(0, .ref (b + (q + 12))), (2, .int a2), (3, .int x3)], [.int a2, .int (s (q + 13) x3.toNatClampNeg), .ref (b + (q + 12))]) (fun _ _ => rfl) ?_
      refine rx_inv rfl rfl (rc_X7_follow hP hq hN z2) rfl rfl rfl (q_recv (wl_12 hP hq)) rfl rfl ?_
      refine rx_k 2 (98, [(3, .int (x3 + 1)), (0, .ref (b + (q + 12))), (2, .int a2)], []) (fun _ _ => rfl) ?_
      refine rx_lo am_X7_reachAll (lo := [(0, .ref (b + (q + 12))), (2, .int a2), (3, .int (x3 + 1))]) (List.forall_mem_cons.mpr ⟨List.mem_of_getElem? (i := 1) rfl, (List.forall_mem_cons.mpr ⟨List.mem_of_getElem? (i := 2) rfl, (List.forall_mem_cons.mpr ⟨List.mem_of_getElem? (i := 0) rfl, (fun _ h => absurd h List.not_mem_nil)⟩)⟩)⟩) rfl (hc _ _ (show (B_X7_reachAll_98 q a2 x3 s) = (true, ((x3 + 1), (D_X7_follow q s (s (q + 13) x3.toNatClampNeg) a2))) from ((if_neg c0).trans ((if_neg c1).trans rfl))) (lt_nle c0) rfl)
theorem nb_X7_reachAll_98 {q : Nat} (hq : q = 38 ∨ q = 60) {a2 : Int32} {x3 : Int32} {s : Sg} (hN : NN s) : ∃ (f : Bool) (t3 : Int32) (ts : Sg), (B_X7_reachAll_98 q a2 x3 s) = (f, (t3, ts)) ∧ NN ts := by
  by_cases c0 : (s (q + 12) 4) ≤ x3
  · exact ⟨_, _, _, (show (B_X7_reachAll_98 q a2 x3 s) = (false, (x3, s)) from ((if_pos c0).trans rfl)), hN⟩
  · by_cases c1 : 24 ≤ x3
    · exact ⟨_, _, _, (show (B_X7_reachAll_98 q a2 x3 s) = (false, (x3, s)) from ((if_neg c0).trans ((if_pos c1).trans rfl))), hN⟩
    · exact ⟨_, _, _, (show (B_X7_reachAll_98 q a2 x3 s) = (true, ((x3 + 1), (D_X7_follow q s (s (q + 13) x3.toNatClampNeg) a2))) from ((if_neg c0).trans ((if_neg c1).trans rfl))), (nn_X7_follow hq hN)⟩
noncomputable def R_X7_reachAll_129 (q : Nat) (s : Sg) : Sg := s
theorem r_X7_reachAll_129 (hP : WOK b w H0) {q : Nat} (hq : q = 38 ∨ q = 60) {s : Sg} (hN : NN s) : Rx sc g_X7_reachAll 4 ((129, [], [])) (wd b w wl H0 s, kn) none (wd b w wl H0 (R_X7_reachAll_129 q s), kn) := by
  show Rx sc g_X7_reachAll 4 (129, [], []) (wd b w wl H0 s, kn) none (wd b w wl H0 (R_X7_reachAll_129 q s), kn)
  rw [(show (R_X7_reachAll_129 q s) = s from rfl)]
  exact rx_rv rfl
theorem nr_X7_reachAll_129 {q : Nat} (hq : q = 38 ∨ q = 60) {s : Sg} (hN : NN s) : NN ((R_X7_reachAll_129 q s)) := by
  rw [show (R_X7_reachAll_129 q s) = s from rfl]
  exact hN
noncomputable def R_X7_reachAll_96 (q : Nat) (s : Sg) (a2 : Int32) : Sg := (R_X7_reachAll_129 q ((itr (uc2 (B_X7_reachAll_98 q a2)) BIG (0, s)).2))
theorem r_X7_reachAll_96 (hP : WOK b w H0) {q : Nat} (hq : q = 38 ∨ q = 60) {s : Sg} {a2 : Int32} (z2 : bz a2 = true) (hN : NN s) : Rx sc g_X7_reachAll 4 ((96, [(0, .ref (b + (q + 12))), (2, .int a2)], [])) (wd b w wl H0 s, kn) none (wd b w wl H0 (R_X7_reachAll_96 q s a2), kn) := by
  show Rx sc g_X7_reachAll 4 (96, [(0, .ref (b + (q + 12))), (2, .int a2)], []) (wd b w wl H0 s, kn) none (wd b w wl H0 (R_X7_reachAll_96 q s a2), kn)
  refine rx_k 2 (98, [(3, .int 0), (0, .ref (b + (q + 12))), (2, .int a2)], []) (fun _ _ => rfl) ?_
  refine rx_lo am_X7_reachAll (lo := [(0, .ref (b + (q + 12))), (2, .int a2), (3, .int 0)]) (List.forall_mem_cons.mpr ⟨List.mem_of_getElem? (i := 1) rfl, (List.forall_mem_cons.mpr ⟨List.mem_of_getElem? (i := 2) rfl, (List.forall_mem_cons.mpr ⟨List.mem_of_getElem? (i := 0) rfl, (fun _ h => absurd h List.not_mem_nil)⟩)⟩)⟩) rfl ?_
  refine rx_loop2s (B := B_X7_reachAll_98 q a2) (fr := (fr_X7_reachAll_98 b w q a2)) (E := (fe_X7_reachAll_98 b w q a2)) (I := fun z3 zs => NN zs) (fun z3 zs oo hh9 hI9 hv9 hc9 he9 => b_X7_reachAll_98 hP hq z2 oo hh9 hI9 hv9 hc9 he9) (fun z3 zs hz => nb_X7_reachAll_98 hq hz) BIG 0 s _ _ hN (by decide : (0 : Int) ≤ (0 : Int32).toInt) (le_enough (by decide : (0 : Int) ≤ (0 : Int32).toInt)) ?_
  rw [(show (R_X7_reachAll_96 q s a2) = (R_X7_reachAll_129 q ((itr (uc2 (B_X7_reachAll_98 q a2)) BIG (0, s)).2)) from rfl)]
  exact r_X7_reachAll_129 hP hq (itr_inv2 (B := B_X7_reachAll_98 q a2) (I := fun z3 zs => NN zs) (fun z3 zs hz => nb_X7_reachAll_98 hq hz) BIG 0 s hN)
theorem nr_X7_reachAll_96 {q : Nat} (hq : q = 38 ∨ q = 60) {s : Sg} {a2 : Int32} (hN : NN s) : NN ((R_X7_reachAll_96 q s a2)) := by
  rw [show (R_X7_reachAll_96 q s a2) = (R_X7_reachAll_129 q ((itr (uc2 (B_X7_reachAll_98 q a2)) BIG (0, s)).2)) from rfl]
  exact (nr_X7_reachAll_129 hq (itr_inv2 (B := B_X7_reachAll_98 q a2) (I := fun z3 zs => NN zs) (fun z3 zs hz => nb_X7_reachAll_98 hq hz) BIG 0 s hN))
noncomputable def R_X7_reachAll_57 (q : Nat) (s : Sg) (a1 : Int32) (a2 : Int32) : Sg := (R_X7_reachAll_96 q ((itr (uc2 (B_X7_reachAll_64 q a2)) BIG (0, (D_X7_reachName q s a1))).2) a2)
theorem r_X7_reachAll_57 (hP : WOK b w H0) {q : Nat} (hq : q = 38 ∨ q = 60) {s : Sg} {a1 : Int32} {a2 : Int32} (z2 : bz a2 = true) (hN : NN s) : Rx sc g_X7_reachAll 4 ((57, [(0, .ref (b + (q + 12))), (1, .int a1), (2, .int a2)], [])) (wd b w wl H0 s, kn) none (wd b w wl H0 (R_X7_reachAll_57 q s a1 a2), kn) := by
  show Rx sc g_X7_reachAll 4 (57, [(0, .ref (b + (q + 12))), (1, .int a1), (2, .int a2)], []) (wd b w wl H0 s, kn) none (wd b w wl H0 (R_X7_reachAll_57 q s a1 a2), kn)
  refine rx_k 2 (59, [(0, .ref (b + (q + 12))), (1, .int a1), (2, .int a2)], [.int a1, .ref (b + (q + 12))]) (fun _ _ => rfl) ?_
  refine rx_inv rfl rfl (rc_X7_reachName hP hq hN) rfl rfl rfl (q_recv (wl_12 hP hq)) rfl rfl ?_
  refine rx_k 2 (64, [(3, .int 0), (0, .ref (b + (q + 12))), (1, .int a1), (2, .int a2)], []) (fun _ _ => rfl) ?_
  refine rx_lo am_X7_reachAll (lo := [(0, .ref (b + (q + 12))), (2, .int a2), (3, .int 0)]) (List.forall_mem_cons.mpr ⟨List.mem_of_getElem? (i := 1) rfl, (List.forall_mem_cons.mpr ⟨List.mem_of_getElem? (i := 3) rfl, (List.forall_mem_cons.mpr ⟨List.mem_of_getElem? (i := 0) rfl, (fun _ h => absurd h List.not_mem_nil)⟩)⟩)⟩) rfl ?_
  refine rx_loop2s (B := B_X7_reachAll_64 q a2) (fr := (fr_X7_reachAll_64 b w q a2)) (E := (fe_X7_reachAll_64 b w q a2)) (I := fun z3 zs => NN zs) (fun z3 zs oo hh9 hI9 hv9 hc9 he9 => b_X7_reachAll_64 hP hq z2 oo hh9 hI9 hv9 hc9 he9) (fun z3 zs hz => nb_X7_reachAll_64 hq hz) BIG 0 (D_X7_reachName q s a1) _ _ (nn_X7_reachName hq hN) (by decide : (0 : Int) ≤ (0 : Int32).toInt) (le_enough (by decide : (0 : Int) ≤ (0 : Int32).toInt)) ?_
  rw [(show (R_X7_reachAll_57 q s a1 a2) = (R_X7_reachAll_96 q ((itr (uc2 (B_X7_reachAll_64 q a2)) BIG (0, (D_X7_reachName q s a1))).2) a2) from rfl)]
  exact r_X7_reachAll_96 hP hq z2 (itr_inv2 (B := B_X7_reachAll_64 q a2) (I := fun z3 zs => NN zs) (fun z3 zs hz => nb_X7_reachAll_64 hq hz) BIG 0 (D_X7_reachName q s a1) (nn_X7_reachName hq hN))
theorem nr_X7_reachAll_57 {q : Nat} (hq : q = 38 ∨ q = 60) {s : Sg} {a1 : Int32} {a2 : Int32} (hN : NN s) : NN ((R_X7_reachAll_57 q s a1 a2)) := by
  rw [show (R_X7_reachAll_57 q s a1 a2) = (R_X7_reachAll_96 q ((itr (uc2 (B_X7_reachAll_64 q a2)) BIG (0, (D_X7_reachName q s a1))).2) a2) from rfl]
  exact (nr_X7_reachAll_96 hq (itr_inv2 (B := B_X7_reachAll_64 q a2) (I := fun z3 zs => NN zs) (fun z3 zs hz => nb_X7_reachAll_64 hq hz) BIG 0 (D_X7_reachName q s a1) (nn_X7_reachName hq hN)))
noncomputable def D_X7_reachAll (q : Nat) (s : Sg) (a1 : Int32) (a2 : Int32) : Sg := (R_X7_reachAll_57 q ((itr (uc2 (B_X7_reachAll_6 q a1 a2)) BIG (0, (D_X7_forget q s))).2) a1 a2)
theorem m_X7_reachAll (hP : WOK b w H0) {q : Nat} (hq : q = 38 ∨ q = 60) {s : Sg} {a1 : Int32} {a2 : Int32} (hN : NN s) (za2 : bz a2 = true) : Rx sc g_X7_reachAll 4 ((0, [(0, .ref (b + (q + 12))), (1, .int a1), (2, .int a2)], [])) (wd b w wl H0 s, kn) none (wd b w wl H0 (D_X7_reachAll q s a1 a2), kn) := by
  show Rx sc g_X7_reachAll 4 (0, [(0, .ref (b + (q + 12))), (1, .int a1), (2, .int a2)], []) (wd b w wl H0 s, kn) none (wd b w wl H0 (D_X7_reachAll q s a1 a2), kn)
  refine rx_k 1 (1, [(0, .ref (b + (q + 12))), (1, .int a1), (2, .int a2)], [.ref (b + (q + 12))]) (fun _ _ => rfl) ?_
  refine rx_inv rfl rfl (rc_X7_forget hP hq hN) rfl rfl rfl (q_recv (wl_12 hP hq)) rfl rfl ?_
  refine rx_k 2 (6, [(3, .int 0), (0, .ref (b + (q + 12))), (1, .int a1), (2, .int a2)], []) (fun _ _ => rfl) ?_
  refine rx_lo am_X7_reachAll (lo := [(0, .ref (b + (q + 12))), (1, .int a1), (2, .int a2), (3, .int 0)]) (List.forall_mem_cons.mpr ⟨List.mem_of_getElem? (i := 1) rfl, (List.forall_mem_cons.mpr ⟨List.mem_of_getElem? (i := 2) rfl, (List.forall_mem_cons.mpr ⟨List.mem_of_getElem? (i := 3) rfl, (List.forall_mem_cons.mpr ⟨List.mem_of_getElem? (i := 0) rfl, (fun _ h => absurd h List.not_mem_nil)⟩)⟩)⟩)⟩) rfl ?_
  refine rx_loop2s (B := B_X7_reachAll_6 q a1 a2) (fr := (fr_X7_reachAll_6 b w q a1 a2)) (E := (fe_X7_reachAll_6 b w q a1 a2)) (I := fun z3 zs => NN zs) (fun z3 zs oo hh9 hI9 hv9 hc9 he9 => b_X7_reachAll_6 hP hq za2 oo hh9 hI9 hv9 hc9 he9) (fun z3 zs hz => nb_X7_reachAll_6 hq hz) BIG 0 (D_X7_forget q s) _ _ (nn_X7_forget hq hN) (by decide : (0 : Int) ≤ (0 : Int32).toInt) (le_enough (by decide : (0 : Int) ≤ (0 : Int32).toInt)) ?_
  rw [(show (D_X7_reachAll q s a1 a2) = (R_X7_reachAll_57 q ((itr (uc2 (B_X7_reachAll_6 q a1 a2)) BIG (0, (D_X7_forget q s))).2) a1 a2) from rfl)]
  exact r_X7_reachAll_57 hP hq za2 (itr_inv2 (B := B_X7_reachAll_6 q a1 a2) (I := fun z3 zs => NN zs) (fun z3 zs hz => nb_X7_reachAll_6 hq hz) BIG 0 (D_X7_forget q s) (nn_X7_forget hq hN))
theorem rc_X7_reachAll (hP : WOK b w H0) {q : Nat} (hq : q = 38 ∨ q = 60) {s : Sg} {a1 : Int32} {a2 : Int32} (hN : NN s) (za2 : bz a2 = true) : Rc sc 5 111 [.ref (b + (q + 12)), .int a1, .int a2] (wd b w wl H0 s, kn) none (wd b w wl H0 (D_X7_reachAll q s a1 a2), kn) := rx_mc (m_X7_reachAll hP hq hN za2) rfl rfl (Nat.ble_eq_true_of_le (Nat.le_refl _)) (Nat.ble_eq_true_of_le (Nat.le_refl _))
theorem nn_X7_reachAll {q : Nat} (hq : q = 38 ∨ q = 60) {s : Sg} {a1 : Int32} {a2 : Int32} (hN : NN s) : NN (D_X7_reachAll q s a1 a2) := by
  rw [show (D_X7_reachAll q s a1 a2) = (R_X7_reachAll_57 q ((itr (uc2 (B_X7_reachAll_6 q a1 a2)) BIG (0, (D_X7_forget q s))).2) a1 a2) from rfl]
  exact (nr_X7_reachAll_57 hq (itr_inv2 (B := B_X7_reachAll_6 q a1 a2) (I := fun z3 zs => NN zs) (fun z3 zs hz => nb_X7_reachAll_6 hq hz) BIG 0 (D_X7_forget q s) (nn_X7_forget hq hN)))
theorem fwb_X7_reachAll_6 {q : Nat} {a1 : Int32} {a2 : Int32} {x3 : Int32} {s : Sg} {k j : Nat} (l12f4 : k ≠ q + 12 ∨ j ≠ 4) (l12f5 : k ≠ q + 12 ∨ j ≠ 5) (l12f6 : k ≠ q + 12 ∨ j ≠ 6) (l12f7 : k ≠ q + 12 ∨ j ≠ 7) (l13 : k ≠ q + 13) (l14 : k ≠ q + 14) : ∃ (f : Bool) (t3 : Int32) (ts : Sg), (B_X7_reachAll_6 q a1 a2 x3 s) = (f, (t3, ts)) ∧ ts k j = s k j := by
  by_cases c0 : (D_X8_count s) ≤ x3
  · exact ⟨_, _, _, (show (B_X7_reachAll_6 q a1 a2 x3 s) = (false, (x3, s)) from ((if_pos c0).trans rfl)), rfl⟩
  · by_cases c1 : (D_X8_isKept s x3) = 0
    · exact ⟨_, _, _, (show (B_X7_reachAll_6 q a1 a2 x3 s) = (true, ((x3 + 1), s)) from ((if_neg c0).trans ((if_pos c1).trans rfl))), rfl⟩
    · by_cases c2 : (D_X10_isTaken q s (D_X8_objectOf s x3)) = 0
      · exact ⟨_, _, _, (show (B_X7_reachAll_6 q a1 a2 x3 s) = (true, ((x3 + 1), s)) from ((if_neg c0).trans ((if_neg c1).trans ((if_pos c2).trans rfl)))), rfl⟩
      · exact ⟨_, _, _, (show (B_X7_reachAll_6 q a1 a2 x3 s) = (true, ((x3 + 1), (D_X7_reachSection q s x3))) from ((if_neg c0).trans ((if_neg c1).trans ((if_neg c2).trans rfl)))), ((fw_X7_reachSection l12f4 l12f5 l13).trans rfl)⟩
theorem fwb_X7_reachAll_64 {q : Nat} {a2 : Int32} {x3 : Int32} {s : Sg} {k j : Nat} (l12f4 : k ≠ q + 12 ∨ j ≠ 4) (l12f5 : k ≠ q + 12 ∨ j ≠ 5) (l12f6 : k ≠ q + 12 ∨ j ≠ 6) (l12f7 : k ≠ q + 12 ∨ j ≠ 7) (l13 : k ≠ q + 13) (l14 : k ≠ q + 14) : ∃ (f : Bool) (t3 : Int32) (ts : Sg), (B_X7_reachAll_64 q a2 x3 s) = (f, (t3, ts)) ∧ ts k j = s k j := by
  by_cases c0 : a2 = 0
  · exact ⟨_, _, _, (show (B_X7_reachAll_64 q a2 x3 s) = (false, (x3, s)) from ((if_pos c0).trans rfl)), rfl⟩
  · by_cases c1 : 20 ≤ x3
    · exact ⟨_, _, _, (show (B_X7_reachAll_64 q a2 x3 s) = (false, (x3, s)) from ((if_neg c0).trans ((if_pos c1).trans rfl))), rfl⟩
    · by_cases c2 : (D_X9_isHidden q s x3) = 0
      · exact ⟨_, _, _, (show (B_X7_reachAll_64 q a2 x3 s) = (true, ((x3 + 1), (D_X7_reachName q s x3))) from ((if_neg c0).trans ((if_neg c1).trans ((if_pos c2).trans rfl)))), ((fw_X7_reachName l12f4 l12f5 l12f6 l13).trans rfl)⟩
      · exact ⟨_, _, _, (show (B_X7_reachAll_64 q a2 x3 s) = (true, ((x3 + 1), s)) from ((if_neg c0).trans ((if_neg c1).trans ((if_neg c2).trans rfl)))), rfl⟩
theorem fwb_X7_reachAll_98 {q : Nat} {a2 : Int32} {x3 : Int32} {s : Sg} {k j : Nat} (l12f4 : k ≠ q + 12 ∨ j ≠ 4) (l12f5 : k ≠ q + 12 ∨ j ≠ 5) (l12f6 : k ≠ q + 12 ∨ j ≠ 6) (l12f7 : k ≠ q + 12 ∨ j ≠ 7) (l13 : k ≠ q + 13) (l14 : k ≠ q + 14) : ∃ (f : Bool) (t3 : Int32) (ts : Sg), (B_X7_reachAll_98 q a2 x3 s) = (f, (t3, ts)) ∧ ts k j = s k j := by
  by_cases c0 : (s (q + 12) 4) ≤ x3
  · exact ⟨_, _, _, (show (B_X7_reachAll_98 q a2 x3 s) = (false, (x3, s)) from ((if_pos c0).trans rfl)), rfl⟩
  · by_cases c1 : 24 ≤ x3
    · exact ⟨_, _, _, (show (B_X7_reachAll_98 q a2 x3 s) = (false, (x3, s)) from ((if_neg c0).trans ((if_pos c1).trans rfl))), rfl⟩
    · exact ⟨_, _, _, (show (B_X7_reachAll_98 q a2 x3 s) = (true, ((x3 + 1), (D_X7_follow q s (s (q + 13) x3.toNatClampNeg) a2))) from ((if_neg c0).trans ((if_neg c1).trans rfl))), ((fw_X7_follow l12f4 l12f5 l12f6 l12f7 l13 l14).trans rfl)⟩
theorem fwr_X7_reachAll_129 {q : Nat} {s : Sg} {k j : Nat} (l12f4 : k ≠ q + 12 ∨ j ≠ 4) (l12f5 : k ≠ q + 12 ∨ j ≠ 5) (l12f6 : k ≠ q + 12 ∨ j ≠ 6) (l12f7 : k ≠ q + 12 ∨ j ≠ 7) (l13 : k ≠ q + 13) (l14 : k ≠ q + 14) : (R_X7_reachAll_129 q s) k j = s k j := by
  rw [show (R_X7_reachAll_129 q s) = s from rfl]
  first | done | exact rfl
theorem fwr_X7_reachAll_96 {q : Nat} {s : Sg} {a2 : Int32} {k j : Nat} (l12f4 : k ≠ q + 12 ∨ j ≠ 4) (l12f5 : k ≠ q + 12 ∨ j ≠ 5) (l12f6 : k ≠ q + 12 ∨ j ≠ 6) (l12f7 : k ≠ q + 12 ∨ j ≠ 7) (l13 : k ≠ q + 13) (l14 : k ≠ q + 14) : (R_X7_reachAll_96 q s a2) k j = s k j := by
  rw [show (R_X7_reachAll_96 q s a2) = (R_X7_reachAll_129 q ((itr (uc2 (B_X7_reachAll_98 q a2)) BIG (0, s)).2)) from rfl]
  first | done | exact ((fwr_X7_reachAll_129 l12f4 l12f5 l12f6 l12f7 l13 l14).trans ((itr_inv2 (B := B_X7_reachAll_98 q a2) (I := fun z3 zs => zs k j = s k j) (fun z3 zs hz => exq2 (fwb_X7_reachAll_98 l12f4 l12f5 l12f6 l12f7 l13 l14) hz) BIG 0 s rfl).trans rfl))
theorem fwr_X7_reachAll_57 {q : Nat} {s : Sg} {a1 : Int32} {a2 : Int32} {k j : Nat} (l12f4 : k ≠ q + 12 ∨ j ≠ 4) (l12f5 : k ≠ q + 12 ∨ j ≠ 5) (l12f6 : k ≠ q + 12 ∨ j ≠ 6) (l12f7 : k ≠ q + 12 ∨ j ≠ 7) (l13 : k ≠ q + 13) (l14 : k ≠ q + 14) : (R_X7_reachAll_57 q s a1 a2) k j = s k j := by
  rw [show (R_X7_reachAll_57 q s a1 a2) = (R_X7_reachAll_96 q ((itr (uc2 (B_X7_reachAll_64 q a2)) BIG (0, (D_X7_reachName q s a1))).2) a2) from rfl]
  first | done | exact ((fwr_X7_reachAll_96 l12f4 l12f5 l12f6 l12f7 l13 l14).trans ((itr_inv2 (B := B_X7_reachAll_64 q a2) (I := fun z3 zs => zs k j = (D_X7_reachName q s a1) k j) (fun z3 zs hz => exq2 (fwb_X7_reachAll_64 l12f4 l12f5 l12f6 l12f7 l13 l14) hz) BIG 0 (D_X7_reachName q s a1) rfl).trans ((fw_X7_reachName l12f4 l12f5 l12f6 l13).trans rfl)))
theorem fw_X7_reachAll {q : Nat} {s : Sg} {a1 : Int32} {a2 : Int32} {k j : Nat} (l12f4 : k ≠ q + 12 ∨ j ≠ 4) (l12f5 : k ≠ q + 12 ∨ j ≠ 5) (l12f6 : k ≠ q + 12 ∨ j ≠ 6) (l12f7 : k ≠ q + 12 ∨ j ≠ 7) (l13 : k ≠ q + 13) (l14 : k ≠ q + 14) : (D_X7_reachAll q s a1 a2) k j = s k j := by
  rw [show (D_X7_reachAll q s a1 a2) = (R_X7_reachAll_57 q ((itr (uc2 (B_X7_reachAll_6 q a1 a2)) BIG (0, (D_X7_forget q s))).2) a1 a2) from rfl]
  first | done | exact ((fwr_X7_reachAll_57 l12f4 l12f5 l12f6 l12f7 l13 l14).trans ((itr_inv2 (B := B_X7_reachAll_6 q a1 a2) (I := fun z3 zs => zs k j = (D_X7_forget q s) k j) (fun z3 zs hz => exq2 (fwb_X7_reachAll_6 l12f4 l12f5 l12f6 l12f7 l13 l14) hz) BIG 0 (D_X7_forget q s) rfl).trans ((fw_X7_forget l12f4 l12f5 l12f6 l12f7 l14).trans rfl)))
-- LinkHarbour$Settling.isTwiceStrong
noncomputable def D_X9_isTwiceStrong (q : Nat) (s : Sg) (a1 : Int32) : Int32 := (if (D_X11_isName a1) = 0 then 0 else (if (D_X11_hasBit (s (q + 5) 9) a1) = 0 then 0 else 1))
theorem m_X9_isTwiceStrong (hP : WOK b w H0) {q : Nat} (hq : q = 38 ∨ q = 60) {s : Sg} {a1 : Int32} : Rx sc g_X9_isTwiceStrong 1 ((0, [(0, .ref (b + (q + 5))), (1, .int a1)], [])) (wd b w wl H0 s, kn) (some (.int (D_X9_isTwiceStrong q s a1))) (wd b w wl H0 s, kn) := by
  show Rx sc g_X9_isTwiceStrong 1 (0, [(0, .ref (b + (q + 5))), (1, .int a1)], []) (wd b w wl H0 s, kn) (some (.int (D_X9_isTwiceStrong q s a1))) (wd b w wl H0 s, kn)
  refine rx_k 1 (1, [(0, .ref (b + (q + 5))), (1, .int a1)], [.int a1]) (fun _ _ => rfl) ?_
  refine rx_inv rfl rfl (rc_X11_isName) rfl rfl rfl rfl rfl rfl ?_
  by_cases c0 : (D_X11_isName a1) = 0
  · refine rx_ifT rfl (bt c0) ?_
    refine rx_k 1 (23, [(0, .ref (b + (q + 5))), (1, .int a1)], [.int 0]) (fun _ _ => rfl) ?_
    rw [(show (D_X9_isTwiceStrong q s a1) = 0 from ((if_pos c0).trans rfl))]
    exact rx_ri rfl
  · refine rx_ifF rfl (bf c0) rfl ?_
    refine rx_k 1 (8, [(0, .ref (b + (q + 5))), (1, .int a1)], [.ref (b + (q + 5))]) (fun _ _ => rfl) ?_
    refine rx_getf rfl rfl (wl_5 hP hq) rfl ?_
    refine rx_k 1 (12, [(0, .ref (b + (q + 5))), (1, .int a1)], [.int a1, .int (s (q + 5) 9)]) (fun _ _ => rfl) ?_
    refine rx_inv rfl rfl (rc_X11_hasBit) rfl rfl rfl rfl rfl rfl ?_
    by_cases c1 : (D_X11_hasBit (s (q + 5) 9) a1) = 0
    · refine rx_ifT rfl (bt c1) ?_
      refine rx_k 1 (23, [(0, .ref (b + (q + 5))), (1, .int a1)], [.int 0]) (fun _ _ => rfl) ?_
      rw [(show (D_X9_isTwiceStrong q s a1) = 0 from ((if_neg c0).trans ((if_pos c1).trans rfl)))]
      exact rx_ri rfl
    · refine rx_ifF rfl (bf c1) rfl ?_
      refine rx_k 2 (23, [(0, .ref (b + (q + 5))), (1, .int a1)], [.int 1]) (fun _ _ => rfl) ?_
      rw [(show (D_X9_isTwiceStrong q s a1) = 1 from ((if_neg c0).trans ((if_neg c1).trans rfl)))]
      exact rx_ri rfl
theorem bz_X9_isTwiceStrong {q : Nat} {s : Sg} {a1 : Int32} : bz (D_X9_isTwiceStrong q s a1) = true := by
  by_cases c0 : (D_X11_isName a1) = 0
  · rw [show (D_X9_isTwiceStrong q s a1) = 0 from ((if_pos c0).trans rfl)]
    exact rfl
  · by_cases c1 : (D_X11_hasBit (s (q + 5) 9) a1) = 0
    · rw [show (D_X9_isTwiceStrong q s a1) = 0 from ((if_neg c0).trans ((if_pos c1).trans rfl))]
      exact rfl
    · rw [show (D_X9_isTwiceStrong q s a1) = 1 from ((if_neg c0).trans ((if_neg c1).trans rfl))]
      exact rfl
theorem rc_X9_isTwiceStrong (hP : WOK b w H0) {q : Nat} (hq : q = 38 ∨ q = 60) {s : Sg} {a1 : Int32} : Rc sc 2 147 [.ref (b + (q + 5)), .int a1] (wd b w wl H0 s, kn) (some (.int (D_X9_isTwiceStrong q s a1))) (wd b w wl H0 s, kn) := rx_mc (m_X9_isTwiceStrong hP hq) rfl (bz_X9_isTwiceStrong ..) (Nat.ble_eq_true_of_le (Nat.le_refl _)) (Nat.ble_eq_true_of_le (Nat.le_refl _))
-- LinkHarbour$Reaching.isImport
noncomputable def D_X7_isImport (q : Nat) (s : Sg) (a1 : Int32) : Int32 := (if (D_X11_isName a1) = 0 then 0 else (if (D_X11_hasBit (s (q + 12) 7) a1) = 0 then 0 else 1))
theorem m_X7_isImport (hP : WOK b w H0) {q : Nat} (hq : q = 38 ∨ q = 60) {s : Sg} {a1 : Int32} : Rx sc g_X7_isImport 1 ((0, [(0, .ref (b + (q + 12))), (1, .int a1)], [])) (wd b w wl H0 s, kn) (some (.int (D_X7_isImport q s a1))) (wd b w wl H0 s, kn) := by
  show Rx sc g_X7_isImport 1 (0, [(0, .ref (b + (q + 12))), (1, .int a1)], []) (wd b w wl H0 s, kn) (some (.int (D_X7_isImport q s a1))) (wd b w wl H0 s, kn)
  refine rx_k 1 (1, [(0, .ref (b + (q + 12))), (1, .int a1)], [.int a1]) (fun _ _ => rfl) ?_
  refine rx_inv rfl rfl (rc_X11_isName) rfl rfl rfl rfl rfl rfl ?_
  by_cases c0 : (D_X11_isName a1) = 0
  · refine rx_ifT rfl (bt c0) ?_
    refine rx_k 1 (23, [(0, .ref (b + (q + 12))), (1, .int a1)], [.int 0]) (fun _ _ => rfl) ?_
    rw [(show (D_X7_isImport q s a1) = 0 from ((if_pos c0).trans rfl))]
    exact rx_ri rfl
  · refine rx_ifF rfl (bf c0) rfl ?_
    refine rx_k 1 (8, [(0, .ref (b + (q + 12))), (1, .int a1)], [.ref (b + (q + 12))]) (fun _ _ => rfl) ?_
    refine rx_getf rfl rfl (wl_12 hP hq) rfl ?_
    refine rx_k 1 (12, [(0, .ref (b + (q + 12))), (1, .int a1)], [.int a1, .int (s (q + 12) 7)]) (fun _ _ => rfl) ?_
    refine rx_inv rfl rfl (rc_X11_hasBit) rfl rfl rfl rfl rfl rfl ?_
    by_cases c1 : (D_X11_hasBit (s (q + 12) 7) a1) = 0
    · refine rx_ifT rfl (bt c1) ?_
      refine rx_k 1 (23, [(0, .ref (b + (q + 12))), (1, .int a1)], [.int 0]) (fun _ _ => rfl) ?_
      rw [(show (D_X7_isImport q s a1) = 0 from ((if_neg c0).trans ((if_pos c1).trans rfl)))]
      exact rx_ri rfl
    · refine rx_ifF rfl (bf c1) rfl ?_
      refine rx_k 2 (23, [(0, .ref (b + (q + 12))), (1, .int a1)], [.int 1]) (fun _ _ => rfl) ?_
      rw [(show (D_X7_isImport q s a1) = 1 from ((if_neg c0).trans ((if_neg c1).trans rfl)))]
      exact rx_ri rfl
theorem bz_X7_isImport {q : Nat} {s : Sg} {a1 : Int32} : bz (D_X7_isImport q s a1) = true := by
  by_cases c0 : (D_X11_isName a1) = 0
  · rw [show (D_X7_isImport q s a1) = 0 from ((if_pos c0).trans rfl)]
    exact rfl
  · by_cases c1 : (D_X11_hasBit (s (q + 12) 7) a1) = 0
    · rw [show (D_X7_isImport q s a1) = 0 from ((if_neg c0).trans ((if_pos c1).trans rfl))]
      exact rfl
    · rw [show (D_X7_isImport q s a1) = 1 from ((if_neg c0).trans ((if_neg c1).trans rfl))]
      exact rfl
theorem rc_X7_isImport (hP : WOK b w H0) {q : Nat} (hq : q = 38 ∨ q = 60) {s : Sg} {a1 : Int32} : Rc sc 2 109 [.ref (b + (q + 12)), .int a1] (wd b w wl H0 s, kn) (some (.int (D_X7_isImport q s a1))) (wd b w wl H0 s, kn) := rx_mc (m_X7_isImport hP hq) rfl (bz_X7_isImport ..) (Nat.ble_eq_true_of_le (Nat.le_refl _)) (Nat.ble_eq_true_of_le (Nat.le_refl _))
-- LinkHarbour$SectionTable.isWeak
noncomputable def D_X8_isWeak (s : Sg) (a1 : Int32) (a2 : Int32) : Int32 := (if (D_X8_hasPiece s a1 a2) = 0 then 0 else (if (s 19 ((a1 * 8) + a2).toNatClampNeg) = 0 then 0 else 1))
theorem m_X8_isWeak (hP : WOK b w H0) {s : Sg} {a1 : Int32} {a2 : Int32} : Rx sc g_X8_isWeak 1 ((0, [(0, .ref (b + 11)), (1, .int a1), (2, .int a2)], [])) (wd b w wl H0 s, kn) (some (.int (D_X8_isWeak s a1 a2))) (wd b w wl H0 s, kn) := by
  show Rx sc g_X8_isWeak 1 (0, [(0, .ref (b + 11)), (1, .int a1), (2, .int a2)], []) (wd b w wl H0 s, kn) (some (.int (D_X8_isWeak s a1 a2))) (wd b w wl H0 s, kn)
  refine rx_k 3 (3, [(0, .ref (b + 11)), (1, .int a1), (2, .int a2)], [.int a2, .int a1, .ref (b + 11)]) (fun _ _ => rfl) ?_
  refine rx_inv rfl rfl (rc_X8_hasPiece hP) rfl rfl rfl (q_recv (wg_11 hP)) rfl rfl ?_
  by_cases c0 : (D_X8_hasPiece s a1 a2) = 0
  · refine rx_ifT rfl (bt c0) ?_
    refine rx_k 1 (28, [(0, .ref (b + 11)), (1, .int a1), (2, .int a2)], [.int 0]) (fun _ _ => rfl) ?_
    rw [(show (D_X8_isWeak s a1 a2) = 0 from ((if_pos c0).trans rfl))]
    exact rx_ri rfl
  · refine rx_ifF rfl (bf c0) rfl ?_
    refine rx_k 1 (10, [(0, .ref (b + 11)), (1, .int a1), (2, .int a2)], [.ref (b + 11)]) (fun _ _ => rfl) ?_
    refine rx_getf rfl rfl (wg_11 hP) rfl ?_
    refine rx_k 5 (19, [(0, .ref (b + 11)), (1, .int a1), (2, .int a2)], [.int ((a1 * 8) + a2), .ref (b + 19)]) (fun _ _ => rfl) ?_
    refine rx_ild rfl rfl (wg_19 hP) (ar_at (i_mul_add 8 8 rfl (rg_X8_hasPiece1 c0) (rg_X8_hasPiece2 c0) (by decide) (by decide))) ?_
    by_cases c1 : (s 19 ((a1 * 8) + a2).toNatClampNeg) = 0
    · refine rx_ifT rfl (bt c1) ?_
      refine rx_k 1 (28, [(0, .ref (b + 11)), (1, .int a1), (2, .int a2)], [.int 0]) (fun _ _ => rfl) ?_
      rw [(show (D_X8_isWeak s a1 a2) = 0 from ((if_neg c0).trans ((if_pos c1).trans rfl)))]
      exact rx_ri rfl
    · refine rx_ifF rfl (bf c1) rfl ?_
      refine rx_k 2 (28, [(0, .ref (b + 11)), (1, .int a1), (2, .int a2)], [.int 1]) (fun _ _ => rfl) ?_
      rw [(show (D_X8_isWeak s a1 a2) = 1 from ((if_neg c0).trans ((if_neg c1).trans rfl)))]
      exact rx_ri rfl
theorem bz_X8_isWeak {s : Sg} {a1 : Int32} {a2 : Int32} : bz (D_X8_isWeak s a1 a2) = true := by
  by_cases c0 : (D_X8_hasPiece s a1 a2) = 0
  · rw [show (D_X8_isWeak s a1 a2) = 0 from ((if_pos c0).trans rfl)]
    exact rfl
  · by_cases c1 : (s 19 ((a1 * 8) + a2).toNatClampNeg) = 0
    · rw [show (D_X8_isWeak s a1 a2) = 0 from ((if_neg c0).trans ((if_pos c1).trans rfl))]
      exact rfl
    · rw [show (D_X8_isWeak s a1 a2) = 1 from ((if_neg c0).trans ((if_neg c1).trans rfl))]
      exact rfl
theorem rc_X8_isWeak (hP : WOK b w H0) {s : Sg} {a1 : Int32} {a2 : Int32} : Rc sc 2 134 [.ref (b + 11), .int a1, .int a2] (wd b w wl H0 s, kn) (some (.int (D_X8_isWeak s a1 a2))) (wd b w wl H0 s, kn) := rx_mc (m_X8_isWeak hP) rfl (bz_X8_isWeak ..) (Nat.ble_eq_true_of_le (Nat.le_refl _)) (Nat.ble_eq_true_of_le (Nat.le_refl _))
-- LinkHarbour$SectionTable.added
noncomputable def D_X8_added (s : Sg) (a1 : Int32) (a2 : Int32) : Int32 := (if (D_X8_hasPiece s a1 a2) = 0 then 0 else (s 18 ((a1 * 8) + a2).toNatClampNeg))
theorem m_X8_added (hP : WOK b w H0) {s : Sg} {a1 : Int32} {a2 : Int32} : Rx sc g_X8_added 1 ((0, [(0, .ref (b + 11)), (1, .int a1), (2, .int a2)], [])) (wd b w wl H0 s, kn) (some (.int (D_X8_added s a1 a2))) (wd b w wl H0 s, kn) := by
  show Rx sc g_X8_added 1 (0, [(0, .ref (b + 11)), (1, .int a1), (2, .int a2)], []) (wd b w wl H0 s, kn) (some (.int (D_X8_added s a1 a2))) (wd b w wl H0 s, kn)
  refine rx_k 3 (3, [(0, .ref (b + 11)), (1, .int a1), (2, .int a2)], [.int a2, .int a1, .ref (b + 11)]) (fun _ _ => rfl) ?_
  refine rx_inv rfl rfl (rc_X8_hasPiece hP) rfl rfl rfl (q_recv (wg_11 hP)) rfl rfl ?_
  by_cases c0 : (D_X8_hasPiece s a1 a2) = 0
  · refine rx_ifT rfl (bt c0) ?_
    refine rx_k 1 (24, [(0, .ref (b + 11)), (1, .int a1), (2, .int a2)], [.int 0]) (fun _ _ => rfl) ?_
    rw [(show (D_X8_added s a1 a2) = 0 from ((if_pos c0).trans rfl))]
    exact rx_ri rfl
  · refine rx_ifF rfl (bf c0) rfl ?_
    refine rx_k 1 (10, [(0, .ref (b + 11)), (1, .int a1), (2, .int a2)], [.ref (b + 11)]) (fun _ _ => rfl) ?_
    refine rx_getf rfl rfl (wg_11 hP) rfl ?_
    refine rx_k 5 (19, [(0, .ref (b + 11)), (1, .int a1), (2, .int a2)], [.int ((a1 * 8) + a2), .ref (b + 18)]) (fun _ _ => rfl) ?_
    refine rx_ild rfl rfl (wg_18 hP) (ar_at (i_mul_add 8 8 rfl (rg_X8_hasPiece1 c0) (rg_X8_hasPiece2 c0) (by decide) (by decide))) ?_
    refine rx_k 1 (24, [(0, .ref (b + 11)), (1, .int a1), (2, .int a2)], [.int (s 18 ((a1 * 8) + a2).toNatClampNeg)]) (fun _ _ => rfl) ?_
    rw [(show (D_X8_added s a1 a2) = (s 18 ((a1 * 8) + a2).toNatClampNeg) from ((if_neg c0).trans rfl))]
    exact rx_ri rfl
theorem rc_X8_added (hP : WOK b w H0) {s : Sg} {a1 : Int32} {a2 : Int32} : Rc sc 2 133 [.ref (b + 11), .int a1, .int a2] (wd b w wl H0 s, kn) (some (.int (D_X8_added s a1 a2))) (wd b w wl H0 s, kn) := rx_mc (m_X8_added hP) rfl rfl (Nat.ble_eq_true_of_le (Nat.le_refl _)) (Nat.ble_eq_true_of_le (Nat.le_refl _))
-- LinkHarbour$Link.tellFaultsOf
noncomputable def D_X5_tellFaultsOf (q : Nat) (s : Sg) (a1 : Int32) (a2 : Int32) (a3 : Int32) : Sg := (if (D_X7_isImport q s (D_X8_name s a1 a2)) = 0 then (if (D_X9_kind q s (D_X8_name s a1 a2)) = (-1) then (if (D_X8_isWeak s a1 a2) = 0 then (if (D_X8_kind (D_X0_add q s 3 (D_X8_name s a1 a2) a1 a2) a1 a2) = 1 then (if ((D_X3_standsFor q (D_X0_add q s 3 (D_X8_name s a1 a2) a1 a2) (D_X8_name s a1 a2)) + (D_X8_added (D_X0_add q s 3 (D_X8_name s a1 a2) a1 a2) a1 a2)) < 0 then (D_X0_add q (D_X0_add q s 3 (D_X8_name s a1 a2) a1 a2) 4 (D_X8_name s a1 a2) a1 a2) else (if ((D_X3_standsFor q (D_X0_add q s 3 (D_X8_name s a1 a2) a1 a2) (D_X8_name s a1 a2)) + (D_X8_added (D_X0_add q s 3 (D_X8_name s a1 a2) a1 a2) a1 a2)) ≤ a3 then (D_X0_add q s 3 (D_X8_name s a1 a2) a1 a2) else (D_X0_add q (D_X0_add q s 3 (D_X8_name s a1 a2) a1 a2) 4 (D_X8_name s a1 a2) a1 a2))) else (D_X0_add q s 3 (D_X8_name s a1 a2) a1 a2)) else (if (D_X8_kind s a1 a2) = 1 then (if ((D_X3_standsFor q s (D_X8_name s a1 a2)) + (D_X8_added s a1 a2)) < 0 then (D_X0_add q s 4 (D_X8_name s a1 a2) a1 a2) else (if ((D_X3_standsFor q s (D_X8_name s a1 a2)) + (D_X8_added s a1 a2)) ≤ a3 then s else (D_X0_add q s 4 (D_X8_name s a1 a2) a1 a2))) else s)) else (if (D_X8_kind s a1 a2) = 1 then (if ((D_X3_standsFor q s (D_X8_name s a1 a2)) + (D_X8_added s a1 a2)) < 0 then (D_X0_add q s 4 (D_X8_name s a1 a2) a1 a2) else (if ((D_X3_standsFor q s (D_X8_name s a1 a2)) + (D_X8_added s a1 a2)) ≤ a3 then s else (D_X0_add q s 4 (D_X8_name s a1 a2) a1 a2))) else s)) else s)
theorem m_X5_tellFaultsOf (hP : WOK b w H0) {q : Nat} (hq : q = 38 ∨ q = 60) {s : Sg} {a1 : Int32} {a2 : Int32} {a3 : Int32} (hN : NN s) : Rx sc g_X5_tellFaultsOf 2 ((0, [(0, .ref (b + q)), (1, .int a1), (2, .int a2), (3, .int a3)], [])) (wd b w wl H0 s, kn) none (wd b w wl H0 (D_X5_tellFaultsOf q s a1 a2 a3), kn) := by
  show Rx sc g_X5_tellFaultsOf 2 (0, [(0, .ref (b + q)), (1, .int a1), (2, .int a2), (3, .int a3)], []) (wd b w wl H0 s, kn) none (wd b w wl H0 (D_X5_tellFaultsOf q s a1 a2 a3), kn)
  refine rx_k 1 (1, [(0, .ref (b + q)), (1, .int a1), (2, .int a2), (3, .int a3)], [.ref (b + q)]) (fun _ _ => rfl) ?_
  refine rx_getf rfl rfl (wl_0 hP hq) rfl ?_
  refine rx_k 2 (6, [(0, .ref (b + q)), (1, .int a1), (2, .int a2), (3, .int a3)], [.int a2, .int a1, .ref (b + 11)]) (fun _ _ => rfl) ?_
  refine rx_inv rfl rfl (rc_X8_name hP) rfl rfl rfl (q_recv (wg_11 hP)) rfl rfl ?_
  refine rx_k 2 (12, [(4, .int (D_X8_name s a1 a2)), (0, .ref (b + q)), (1, .int a1), (2, .int a2), (3, .int a3)], [.ref (b + q)]) (fun _ _ => rfl) ?_
  refine rx_getf rfl rfl (wl_0 hP hq) rfl ?_
  refine rx_k 1 (17, [(4, .int (D_X8_name s a1 a2)), (0, .ref (b + q)), (1, .int a1), (2, .int a2), (3, .int a3)], [.int (D_X8_name s a1 a2), .ref (b + (q + 12))]) (fun _ _ => rfl) ?_
  refine rx_inv rfl rfl (rc_X7_isImport hP hq) rfl rfl rfl (q_recv (wl_12 hP hq)) rfl rfl ?_
  by_cases c0 : (D_X7_isImport q s (D_X8_name s a1 a2)) = 0
  · refine rx_ifT rfl (bt c0) ?_
    refine rx_k 1 (25, [(4, .int (D_X8_name s a1 a2)), (0, .ref (b + q)), (1, .int a1), (2, .int a2), (3, .int a3)], [.ref (b + q)]) (fun _ _ => rfl) ?_
    refine rx_getf rfl rfl (wl_0 hP hq) rfl ?_
    refine rx_k 1 (30, [(4, .int (D_X8_name s a1 a2)), (0, .ref (b + q)), (1, .int a1), (2, .int a2), (3, .int a3)], [.int (D_X8_name s a1 a2), .ref (b + (q + 5))]) (fun _ _ => rfl) ?_
    refine rx_inv rfl rfl (rc_X9_kind hP hq) rfl rfl rfl (q_recv (wl_5 hP hq)) rfl rfl ?_
    refine rx_k 1 (34, [(4, .int (D_X8_name s a1 a2)), (0, .ref (b + q)), (1, .int a1), (2, .int a2), (3, .int a3)], [.int (-1), .int (D_X9_kind q s (D_X8_name s a1 a2))]) (fun _ _ => rfl) ?_
    by_cases c1 : (D_X9_kind q s (D_X8_name s a1 a2)) = (-1)
    · refine rx_icF rfl (nf c1) rfl ?_
      refine rx_k 1 (38, [(4, .int (D_X8_name s a1 a2)), (0, .ref (b + q)), (1, .int a1), (2, .int a2), (3, .int a3)], [.ref (b + q)]) (fun _ _ => rfl) ?_
      refine rx_getf rfl rfl (wl_0 hP hq) rfl ?_
      refine rx_k 2 (43, [(4, .int (D_X8_name s a1 a2)), (0, .ref (b + q)), (1, .int a1), (2, .int a2), (3, .int a3)], [.int a2, .int a1, .ref (b + 11)]) (fun _ _ => rfl) ?_
      refine rx_inv rfl rfl (rc_X8_isWeak hP) rfl rfl rfl (q_recv (wg_11 hP)) rfl rfl ?_
      by_cases c2 : (D_X8_isWeak s a1 a2) = 0
      · refine rx_ifF rfl (nf c2) rfl ?_
        refine rx_k 1 (50, [(4, .int (D_X8_name s a1 a2)), (0, .ref (b + q)), (1, .int a1), (2, .int a2), (3, .int a3)], [.ref (b + q)]) (fun _ _ => rfl) ?_
        refine rx_getf rfl rfl (wl_0 hP hq) rfl ?_
        refine rx_k 4 (58, [(4, .int (D_X8_name s a1 a2)), (0, .ref (b + q)), (1, .int a1), (2, .int a2), (3, .int a3)], [.int a2, .int a1, .int (D_X8_name s a1 a2), .int 3, .ref (b + (q + 1))]) (fun _ _ => rfl) ?_
        refine rx_inv rfl rfl (rc_X0_add hP hq hN) rfl rfl rfl (q_recv (wl_1 hP hq)) rfl rfl ?_
        refine rx_k 1 (62, [(4, .int (D_X8_name s a1 a2)), (0, .ref (b + q)), (1, .int a1), (2, .int a2), (3, .int a3)], [.ref (b + q)]) (fun _ _ => rfl) ?_
        refine rx_getf rfl rfl (wl_0 hP hq) rfl ?_
        refine rx_k 2 (67, [(4, .int (D_X8_name s a1 a2)), (0, .ref (b + q)), (1, .int a1), (2, .int a2), (3, .int a3)], [.int a2, .int a1, .ref (b + 11)]) (fun _ _ => rfl) ?_
        refine rx_inv rfl rfl (rc_X8_kind hP) rfl rfl rfl (q_recv (wg_11 hP)) rfl rfl ?_
        refine rx_k 1 (71, [(4, .int (D_X8_name s a1 a2)), (0, .ref (b + q)), (1, .int a1), (2, .int a2), (3, .int a3)], [.int 1, .int (D_X8_kind (D_X0_add q s 3 (D_X8_name s a1 a2) a1 a2) a1 a2)]) (fun _ _ => rfl) ?_
        by_cases c3 : (D_X8_kind (D_X0_add q s 3 (D_X8_name s a1 a2) a1 a2) a1 a2) = 1
        · refine rx_icF rfl (nf c3) rfl ?_
          refine rx_k 1 (75, [(4, .int (D_X8_name s a1 a2)), (0, .ref (b + q)), (1, .int a1), (2, .int a2), (3, .int a3)], [.ref (b + q)]) (fun _ _ => rfl) ?_
          refine rx_getf rfl rfl (wl_0 hP hq) rfl ?_
          refine rx_k 1 (80, [(4, .int (D_X8_name s a1 a2)), (0, .ref (b + q)), (1, .int a1), (2, .int a2), (3, .int a3)], [.int (D_X8_name s a1 a2), .ref (b + (q + 15))]) (fun _ _ => rfl) ?_
          refine rx_inv rfl rfl (rc_X3_standsFor hP hq) rfl rfl rfl (q_recv (wl_15 hP hq)) rfl rfl ?_
          refine rx_k 1 (84, [(4, .int (D_X8_name s a1 a2)), (0, .ref (b + q)), (1, .int a1), (2, .int a2), (3, .int a3)], [.ref (b + q), .int (D_X3_standsFor q (D_X0_add q s 3 (D_X8_name s a1 a2) a1 a2) (D_X8_name s a1 a2))]) (fun _ _ => rfl) ?_
          refine rx_getf rfl rfl (wl_0 hP hq) rfl ?_
          refine rx_k 2 (89, [(4, .int (D_X8_name s a1 a2)), (0, .ref (b + q)), (1, .int a1), (2, .int a2), (3, .int a3)], [.int a2, .int a1, .ref (b + 11), .int (D_X3_standsFor q (D_X0_add q s 3 (D_X8_name s a1 a2) a1 a2) (D_X8_name s a1 a2))]) (fun _ _ => rfl) ?_
          refine rx_inv rfl rfl (rc_X8_added hP) rfl rfl rfl (q_recv (wg_11 hP)) rfl rfl ?_
          refine rx_k 3 (97, [(5, .int ((D_X3_standsFor q (D_X0_add q s 3 (D_X8_name s a1 a2) a1 a2) (D_X8_name s a1 a2)) + (D_X8_added (D_X0_add q s 3 (D_X8_name s a1 a2) a1 a2) a1 a2))), (4, .int (D_X8_name s a1 a2)), (0, .ref (b + q)), (1, .int a1), (2, .int a2), (3, .int a3)], [.int ((D_X3_standsFor q (D_X0_add q s 3 (D_X8_name s a1 a2) a1 a2) (D_X8_name s a1 a2)) + (D_X8_added (D_X0_add q s 3 (D_X8_name s a1 a2) a1 a2) a1 a2))]) (fun _ _ => rfl) ?_
          by_cases c4 : ((D_X3_standsFor q (D_X0_add q s 3 (D_X8_name s a1 a2) a1 a2) (D_X8_name s a1 a2)) + (D_X8_added (D_X0_add q s 3 (D_X8_name s a1 a2) a1 a2) a1 a2)) < 0
          · refine rx_ifT rfl (bt c4) ?_
            refine rx_k 1 (107, [(5, .int ((D_X3_standsFor q (D_X0_add q s 3 (D_X8_name s a1 a2) a1 a2) (D_X8_name s a1 a2)) + (D_X8_added (D_X0_add q s 3 (D_X8_name s a1 a2) a1 a2) a1 a2))), (4, .int (D_X8_name s a1 a2)), (0, .ref (b + q)), (1, .int a1), (2, .int a2), (3, .int a3)], [.ref (b + q)]) (fun _ _ => rfl) ?_
            refine rx_getf rfl rfl (wl_0 hP hq) rfl ?_
            refine rx_k 4 (115, [(5, .int ((D_X3_standsFor q (D_X0_add q s 3 (D_X8_name s a1 a2) a1 a2) (D_X8_name s a1 a2)) + (D_X8_added (D_X0_add q s 3 (D_X8_name s a1 a2) a1 a2) a1 a2))), (4, .int (D_X8_name s a1 a2)), (0, .ref (b + q)), (1, .int a1), (2, .int a2), (3, .int a3)], [.int a2, .int a1, .int (D_X8_name s a1 a2), .int 4, .ref (b + (q + 1))]) (fun _ _ => rfl) ?_
            refine rx_inv rfl rfl (rc_X0_add hP hq (nn_X0_add hq hN)) rfl rfl rfl (q_recv (wl_1 hP hq)) rfl rfl ?_
            rw [(show (D_X5_tellFaultsOf q s a1 a2 a3) = (D_X0_add q (D_X0_add q s 3 (D_X8_name s a1 a2) a1 a2) 4 (D_X8_name s a1 a2) a1 a2) from ((if_pos c0).trans ((if_pos c1).trans ((if_pos c2).trans ((if_pos c3).trans ((if_pos c4).trans rfl))))))]
            exact rx_rv rfl
          · refine rx_ifF rfl (bf c4) rfl ?_
            refine rx_k 2 (103, [(5, .int ((D_X3_standsFor q (D_X0_add q s 3 (D_X8_name s a1 a2) a1 a2) (D_X8_name s a1 a2)) + (D_X8_added (D_X0_add q s 3 (D_X8_name s a1 a2) a1 a2) a1 a2))), (4, .int (D_X8_name s a1 a2)), (0, .ref (b + q)), (1, .int a1), (2, .int a2), (3, .int a3)], [.int a3, .int ((D_X3_standsFor q (D_X0_add q s 3 (D_X8_name s a1 a2) a1 a2) (D_X8_name s a1 a2)) + (D_X8_added (D_X0_add q s 3 (D_X8_name s a1 a2) a1 a2) a1 a2))]) (fun _ _ => rfl) ?_
            by_cases c5 : ((D_X3_standsFor q (D_X0_add q s 3 (D_X8_name s a1 a2) a1 a2) (D_X8_name s a1 a2)) + (D_X8_added (D_X0_add q s 3 (D_X8_name s a1 a2) a1 a2) a1 a2)) ≤ a3
            · refine rx_icT rfl (bt c5) ?_
              rw [(show (D_X5_tellFaultsOf q s a1 a2 a3) = (D_X0_add q s 3 (D_X8_name s a1 a2) a1 a2) from ((if_pos c0).trans ((if_pos c1).trans ((if_pos c2).trans ((if_pos c3).trans ((if_neg c4).trans ((if_pos c5).trans rfl)))))))]
              exact rx_rv rfl
            · refine rx_icF rfl (bf c5) rfl ?_
              refine rx_k 1 (107, [(5, .int ((D_X3_standsFor q (D_X0_add q s 3 (D_X8_name s a1 a2) a1 a2) (D_X8_name s a1 a2)) + (D_X8_added (D_X0_add q s 3 (D_X8_name s a1 a2) a1 a2) a1 a2))), (4, .int (D_X8_name s a1 a2)), (0, .ref (b + q)), (1, .int a1), (2, .int a2), (3, .int a3)], [.ref (b + q)]) (fun _ _ => rfl) ?_
              refine rx_getf rfl rfl (wl_0 hP hq) rfl ?_
              refine rx_k 4 (115, [(5, .int ((D_X3_standsFor q (D_X0_add q s 3 (D_X8_name s a1 a2) a1 a2) (D_X8_name s a1 a2)) + (D_X8_added (D_X0_add q s 3 (D_X8_name s a1 a2) a1 a2) a1 a2))), (4, .int (D_X8_name s a1 a2)), (0, .ref (b + q)), (1, .int a1), (2, .int a2), (3, .int a3)], [.int a2, .int a1, .int (D_X8_name s a1 a2), .int 4, .ref (b + (q + 1))]) (fun _ _ => rfl) ?_
              refine rx_inv rfl rfl (rc_X0_add hP hq (nn_X0_add hq hN)) rfl rfl rfl (q_recv (wl_1 hP hq)) rfl rfl ?_
              rw [(show (D_X5_tellFaultsOf q s a1 a2 a3) = (D_X0_add q (D_X0_add q s 3 (D_X8_name s a1 a2) a1 a2) 4 (D_X8_name s a1 a2) a1 a2) from ((if_pos c0).trans ((if_pos c1).trans ((if_pos c2).trans ((if_pos c3).trans ((if_neg c4).trans ((if_neg c5).trans rfl)))))))]
              exact rx_rv rfl
        · refine rx_icT rfl (nt c3) ?_
          rw [(show (D_X5_tellFaultsOf q s a1 a2 a3) = (D_X0_add q s 3 (D_X8_name s a1 a2) a1 a2) from ((if_pos c0).trans ((if_pos c1).trans ((if_pos c2).trans ((if_neg c3).trans rfl)))))]
          exact rx_rv rfl
      · refine rx_ifT rfl (nt c2) ?_
        refine rx_k 1 (62, [(4, .int (D_X8_name s a1 a2)), (0, .ref (b + q)), (1, .int a1), (2, .int a2), (3, .int a3)], [.ref (b + q)]) (fun _ _ => rfl) ?_
        refine rx_getf rfl rfl (wl_0 hP hq) rfl ?_
        refine rx_k 2 (67, [(4, .int (D_X8_name s a1 a2)), (0, .ref (b + q)), (1, .int a1), (2, .int a2), (3, .int a3)], [.int a2, .int a1, .ref (b + 11)]) (fun _ _ => rfl) ?_
        refine rx_inv rfl rfl (rc_X8_kind hP) rfl rfl rfl (q_recv (wg_11 hP)) rfl rfl ?_
        refine rx_k 1 (71, [(4, .int (D_X8_name s a1 a2)), (0, .ref (b + q)), (1, .int a1), (2, .int a2), (3, .int a3)], [.int 1, .int (D_X8_kind s a1 a2)]) (fun _ _ => rfl) ?_
        by_cases c6 : (D_X8_kind s a1 a2) = 1
        · refine rx_icF rfl (nf c6) rfl ?_
          refine rx_k 1 (75, [(4, .int (D_X8_name s a1 a2)), (0, .ref (b + q)), (1, .int a1), (2, .int a2), (3, .int a3)], [.ref (b + q)]) (fun _ _ => rfl) ?_
          refine rx_getf rfl rfl (wl_0 hP hq) rfl ?_
          refine rx_k 1 (80, [(4, .int (D_X8_name s a1 a2)), (0, .ref (b + q)), (1, .int a1), (2, .int a2), (3, .int a3)], [.int (D_X8_name s a1 a2), .ref (b + (q + 15))]) (fun _ _ => rfl) ?_
          refine rx_inv rfl rfl (rc_X3_standsFor hP hq) rfl rfl rfl (q_recv (wl_15 hP hq)) rfl rfl ?_
          refine rx_k 1 (84, [(4, .int (D_X8_name s a1 a2)), (0, .ref (b + q)), (1, .int a1), (2, .int a2), (3, .int a3)], [.ref (b + q), .int (D_X3_standsFor q s (D_X8_name s a1 a2))]) (fun _ _ => rfl) ?_
          refine rx_getf rfl rfl (wl_0 hP hq) rfl ?_
          refine rx_k 2 (89, [(4, .int (D_X8_name s a1 a2)), (0, .ref (b + q)), (1, .int a1), (2, .int a2), (3, .int a3)], [.int a2, .int a1, .ref (b + 11), .int (D_X3_standsFor q s (D_X8_name s a1 a2))]) (fun _ _ => rfl) ?_
          refine rx_inv rfl rfl (rc_X8_added hP) rfl rfl rfl (q_recv (wg_11 hP)) rfl rfl ?_
          refine rx_k 3 (97, [(5, .int ((D_X3_standsFor q s (D_X8_name s a1 a2)) + (D_X8_added s a1 a2))), (4, .int (D_X8_name s a1 a2)), (0, .ref (b + q)), (1, .int a1), (2, .int a2), (3, .int a3)], [.int ((D_X3_standsFor q s (D_X8_name s a1 a2)) + (D_X8_added s a1 a2))]) (fun _ _ => rfl) ?_
          by_cases c7 : ((D_X3_standsFor q s (D_X8_name s a1 a2)) + (D_X8_added s a1 a2)) < 0
          · refine rx_ifT rfl (bt c7) ?_
            refine rx_k 1 (107, [(5, .int ((D_X3_standsFor q s (D_X8_name s a1 a2)) + (D_X8_added s a1 a2))), (4, .int (D_X8_name s a1 a2)), (0, .ref (b + q)), (1, .int a1), (2, .int a2), (3, .int a3)], [.ref (b + q)]) (fun _ _ => rfl) ?_
            refine rx_getf rfl rfl (wl_0 hP hq) rfl ?_
            refine rx_k 4 (115, [(5, .int ((D_X3_standsFor q s (D_X8_name s a1 a2)) + (D_X8_added s a1 a2))), (4, .int (D_X8_name s a1 a2)), (0, .ref (b + q)), (1, .int a1), (2, .int a2), (3, .int a3)], [.int a2, .int a1, .int (D_X8_name s a1 a2), .int 4, .ref (b + (q + 1))]) (fun _ _ => rfl) ?_
            refine rx_inv rfl rfl (rc_X0_add hP hq hN) rfl rfl rfl (q_recv (wl_1 hP hq)) rfl rfl ?_
            rw [(show (D_X5_tellFaultsOf q s a1 a2 a3) = (D_X0_add q s 4 (D_X8_name s a1 a2) a1 a2) from ((if_pos c0).trans ((if_pos c1).trans ((if_neg c2).trans ((if_pos c6).trans ((if_pos c7).trans rfl))))))]
            exact rx_rv rfl
          · refine rx_ifF rfl (bf c7) rfl ?_
            refine rx_k 2 (103, [(5, .int ((D_X3_standsFor q s (D_X8_name s a1 a2)) + (D_X8_added s a1 a2))), (4, .int (D_X8_name s a1 a2)), (0, .ref (b + q)), (1, .int a1), (2, .int a2), (3, .int a3)], [.int a3, .int ((D_X3_standsFor q s (D_X8_name s a1 a2)) + (D_X8_added s a1 a2))]) (fun _ _ => rfl) ?_
            by_cases c8 : ((D_X3_standsFor q s (D_X8_name s a1 a2)) + (D_X8_added s a1 a2)) ≤ a3
            · refine rx_icT rfl (bt c8) ?_
              rw [(show (D_X5_tellFaultsOf q s a1 a2 a3) = s from ((if_pos c0).trans ((if_pos c1).trans ((if_neg c2).trans ((if_pos c6).trans ((if_neg c7).trans ((if_pos c8).trans rfl)))))))]
              exact rx_rv rfl
            · refine rx_icF rfl (bf c8) rfl ?_
              refine rx_k 1 (107, [(5, .int ((D_X3_standsFor q s (D_X8_name s a1 a2)) + (D_X8_added s a1 a2))), (4, .int (D_X8_name s a1 a2)), (0, .ref (b + q)), (1, .int a1), (2, .int a2), (3, .int a3)], [.ref (b + q)]) (fun _ _ => rfl) ?_
              refine rx_getf rfl rfl (wl_0 hP hq) rfl ?_
              refine rx_k 4 (115, [(5, .int ((D_X3_standsFor q s (D_X8_name s a1 a2)) + (D_X8_added s a1 a2))), (4, .int (D_X8_name s a1 a2)), (0, .ref (b + q)), (1, .int a1), (2, .int a2), (3, .int a3)], [.int a2, .int a1, .int (D_X8_name s a1 a2), .int 4, .ref (b + (q + 1))]) (fun _ _ => rfl) ?_
              refine rx_inv rfl rfl (rc_X0_add hP hq hN) rfl rfl rfl (q_recv (wl_1 hP hq)) rfl rfl ?_
              rw [(show (D_X5_tellFaultsOf q s a1 a2 a3) = (D_X0_add q s 4 (D_X8_name s a1 a2) a1 a2) from ((if_pos c0).trans ((if_pos c1).trans ((if_neg c2).trans ((if_pos c6).trans ((if_neg c7).trans ((if_neg c8).trans rfl)))))))]
              exact rx_rv rfl
        · refine rx_icT rfl (nt c6) ?_
          rw [(show (D_X5_tellFaultsOf q s a1 a2 a3) = s from ((if_pos c0).trans ((if_pos c1).trans ((if_neg c2).trans ((if_neg c6).trans rfl)))))]
          exact rx_rv rfl
    · refine rx_icT rfl (nt c1) ?_
      refine rx_k 1 (62, [(4, .int (D_X8_name s a1 a2)), (0, .ref (b + q)), (1, .int a1), (2, .int a2), (3, .int a3)], [.ref (b + q)]) (fun _ _ => rfl) ?_
      refine rx_getf rfl rfl (wl_0 hP hq) rfl ?_
      refine rx_k 2 (67, [(4, .int (D_X8_name s a1 a2)), (0, .ref (b + q)), (1, .int a1), (2, .int a2), (3, .int a3)], [.int a2, .int a1, .ref (b + 11)]) (fun _ _ => rfl) ?_
      refine rx_inv rfl rfl (rc_X8_kind hP) rfl rfl rfl (q_recv (wg_11 hP)) rfl rfl ?_
      refine rx_k 1 (71, [(4, .int (D_X8_name s a1 a2)), (0, .ref (b + q)), (1, .int a1), (2, .int a2), (3, .int a3)], [.int 1, .int (D_X8_kind s a1 a2)]) (fun _ _ => rfl) ?_
      by_cases c9 : (D_X8_kind s a1 a2) = 1
      · refine rx_icF rfl (nf c9) rfl ?_
        refine rx_k 1 (75, [(4, .int (D_X8_name s a1 a2)), (0, .ref (b + q)), (1, .int a1), (2, .int a2), (3, .int a3)], [.ref (b + q)]) (fun _ _ => rfl) ?_
        refine rx_getf rfl rfl (wl_0 hP hq) rfl ?_
        refine rx_k 1 (80, [(4, .int (D_X8_name s a1 a2)), (0, .ref (b + q)), (1, .int a1), (2, .int a2), (3, .int a3)], [.int (D_X8_name s a1 a2), .ref (b + (q + 15))]) (fun _ _ => rfl) ?_
        refine rx_inv rfl rfl (rc_X3_standsFor hP hq) rfl rfl rfl (q_recv (wl_15 hP hq)) rfl rfl ?_
        refine rx_k 1 (84, [(4, .int (D_X8_name s a1 a2)), (0, .ref (b + q)), (1, .int a1), (2, .int a2), (3, .int a3)], [.ref (b + q), .int (D_X3_standsFor q s (D_X8_name s a1 a2))]) (fun _ _ => rfl) ?_
        refine rx_getf rfl rfl (wl_0 hP hq) rfl ?_
        refine rx_k 2 (89, [(4, .int (D_X8_name s a1 a2)), (0, .ref (b + q)), (1, .int a1), (2, .int a2), (3, .int a3)], [.int a2, .int a1, .ref (b + 11), .int (D_X3_standsFor q s (D_X8_name s a1 a2))]) (fun _ _ => rfl) ?_
        refine rx_inv rfl rfl (rc_X8_added hP) rfl rfl rfl (q_recv (wg_11 hP)) rfl rfl ?_
        refine rx_k 3 (97, [(5, .int ((D_X3_standsFor q s (D_X8_name s a1 a2)) + (D_X8_added s a1 a2))), (4, .int (D_X8_name s a1 a2)), (0, .ref (b + q)), (1, .int a1), (2, .int a2), (3, .int a3)], [.int ((D_X3_standsFor q s (D_X8_name s a1 a2)) + (D_X8_added s a1 a2))]) (fun _ _ => rfl) ?_
        by_cases c10 : ((D_X3_standsFor q s (D_X8_name s a1 a2)) + (D_X8_added s a1 a2)) < 0
        · refine rx_ifT rfl (bt c10) ?_
          refine rx_k 1 (107, [(5, .int ((D_X3_standsFor q s (D_X8_name s a1 a2)) + (D_X8_added s a1 a2))), (4, .int (D_X8_name s a1 a2)), (0, .ref (b + q)), (1, .int a1), (2, .int a2), (3, .int a3)], [.ref (b + q)]) (fun _ _ => rfl) ?_
          refine rx_getf rfl rfl (wl_0 hP hq) rfl ?_
          refine rx_k 4 (115, [(5, .int ((D_X3_standsFor q s (D_X8_name s a1 a2)) + (D_X8_added s a1 a2))), (4, .int (D_X8_name s a1 a2)), (0, .ref (b + q)), (1, .int a1), (2, .int a2), (3, .int a3)], [.int a2, .int a1, .int (D_X8_name s a1 a2), .int 4, .ref (b + (q + 1))]) (fun _ _ => rfl) ?_
          refine rx_inv rfl rfl (rc_X0_add hP hq hN) rfl rfl rfl (q_recv (wl_1 hP hq)) rfl rfl ?_
          rw [(show (D_X5_tellFaultsOf q s a1 a2 a3) = (D_X0_add q s 4 (D_X8_name s a1 a2) a1 a2) from ((if_pos c0).trans ((if_neg c1).trans ((if_pos c9).trans ((if_pos c10).trans rfl)))))]
          exact rx_rv rfl
        · refine rx_ifF rfl (bf c10) rfl ?_
          refine rx_k 2 (103, [(5, .int ((D_X3_standsFor q s (D_X8_name s a1 a2)) + (D_X8_added s a1 a2))), (4, .int (D_X8_name s a1 a2)), (0, .ref (b + q)), (1, .int a1), (2, .int a2), (3, .int a3)], [.int a3, .int ((D_X3_standsFor q s (D_X8_name s a1 a2)) + (D_X8_added s a1 a2))]) (fun _ _ => rfl) ?_
          by_cases c11 : ((D_X3_standsFor q s (D_X8_name s a1 a2)) + (D_X8_added s a1 a2)) ≤ a3
          · refine rx_icT rfl (bt c11) ?_
            rw [(show (D_X5_tellFaultsOf q s a1 a2 a3) = s from ((if_pos c0).trans ((if_neg c1).trans ((if_pos c9).trans ((if_neg c10).trans ((if_pos c11).trans rfl))))))]
            exact rx_rv rfl
          · refine rx_icF rfl (bf c11) rfl ?_
            refine rx_k 1 (107, [(5, .int ((D_X3_standsFor q s (D_X8_name s a1 a2)) + (D_X8_added s a1 a2))), (4, .int (D_X8_name s a1 a2)), (0, .ref (b + q)), (1, .int a1), (2, .int a2), (3, .int a3)], [.ref (b + q)]) (fun _ _ => rfl) ?_
            refine rx_getf rfl rfl (wl_0 hP hq) rfl ?_
            refine rx_k 4 (115, [(5, .int ((D_X3_standsFor q s (D_X8_name s a1 a2)) + (D_X8_added s a1 a2))), (4, .int (D_X8_name s a1 a2)), (0, .ref (b + q)), (1, .int a1), (2, .int a2), (3, .int a3)], [.int a2, .int a1, .int (D_X8_name s a1 a2), .int 4, .ref (b + (q + 1))]) (fun _ _ => rfl) ?_
            refine rx_inv rfl rfl (rc_X0_add hP hq hN) rfl rfl rfl (q_recv (wl_1 hP hq)) rfl rfl ?_
            rw [(show (D_X5_tellFaultsOf q s a1 a2 a3) = (D_X0_add q s 4 (D_X8_name s a1 a2) a1 a2) from ((if_pos c0).trans ((if_neg c1).trans ((if_pos c9).trans ((if_neg c10).trans ((if_neg c11).trans rfl))))))]
            exact rx_rv rfl
      · refine rx_icT rfl (nt c9) ?_
        rw [(show (D_X5_tellFaultsOf q s a1 a2 a3) = s from ((if_pos c0).trans ((if_neg c1).trans ((if_neg c9).trans rfl))))]
        exact rx_rv rfl
  · refine rx_ifF rfl (bf c0) rfl ?_
    rw [(show (D_X5_tellFaultsOf q s a1 a2 a3) = s from ((if_neg c0).trans rfl))]
    exact rx_rv rfl
theorem rc_X5_tellFaultsOf (hP : WOK b w H0) {q : Nat} (hq : q = 38 ∨ q = 60) {s : Sg} {a1 : Int32} {a2 : Int32} {a3 : Int32} (hN : NN s) : Rc sc 3 82 [.ref (b + q), .int a1, .int a2, .int a3] (wd b w wl H0 s, kn) none (wd b w wl H0 (D_X5_tellFaultsOf q s a1 a2 a3), kn) := rx_mc (m_X5_tellFaultsOf hP hq hN) rfl rfl (Nat.ble_eq_true_of_le (Nat.le_refl _)) (Nat.ble_eq_true_of_le (Nat.le_refl _))
theorem nn_X5_tellFaultsOf {q : Nat} (hq : q = 38 ∨ q = 60) {s : Sg} {a1 : Int32} {a2 : Int32} {a3 : Int32} (hN : NN s) : NN (D_X5_tellFaultsOf q s a1 a2 a3) := by
  by_cases c0 : (D_X7_isImport q s (D_X8_name s a1 a2)) = 0
  · by_cases c1 : (D_X9_kind q s (D_X8_name s a1 a2)) = (-1)
    · by_cases c2 : (D_X8_isWeak s a1 a2) = 0
      · by_cases c3 : (D_X8_kind (D_X0_add q s 3 (D_X8_name s a1 a2) a1 a2) a1 a2) = 1
        · by_cases c4 : ((D_X3_standsFor q (D_X0_add q s 3 (D_X8_name s a1 a2) a1 a2) (D_X8_name s a1 a2)) + (D_X8_added (D_X0_add q s 3 (D_X8_name s a1 a2) a1 a2) a1 a2)) < 0
          · rw [show (D_X5_tellFaultsOf q s a1 a2 a3) = (D_X0_add q (D_X0_add q s 3 (D_X8_name s a1 a2) a1 a2) 4 (D_X8_name s a1 a2) a1 a2) from ((if_pos c0).trans ((if_pos c1).trans ((if_pos c2).trans ((if_pos c3).trans ((if_pos c4).trans rfl)))))]
            exact (nn_X0_add hq (nn_X0_add hq hN))
          · by_cases c5 : ((D_X3_standsFor q (D_X0_add q s 3 (D_X8_name s a1 a2) a1 a2) (D_X8_name s a1 a2)) + (D_X8_added (D_X0_add q s 3 (D_X8_name s a1 a2) a1 a2) a1 a2)) ≤ a3
            · rw [show (D_X5_tellFaultsOf q s a1 a2 a3) = (D_X0_add q s 3 (D_X8_name s a1 a2) a1 a2) from ((if_pos c0).trans ((if_pos c1).trans ((if_pos c2).trans ((if_pos c3).trans ((if_neg c4).trans ((if_pos c5).trans rfl))))))]
              exact (nn_X0_add hq hN)
            · rw [show (D_X5_tellFaultsOf q s a1 a2 a3) = (D_X0_add q (D_X0_add q s 3 (D_X8_name s a1 a2) a1 a2) 4 (D_X8_name s a1 a2) a1 a2) from ((if_pos c0).trans ((if_pos c1).trans ((if_pos c2).trans ((if_pos c3).trans ((if_neg c4).trans ((if_neg c5).trans rfl))))))]
              exact (nn_X0_add hq (nn_X0_add hq hN))
        · rw [show (D_X5_tellFaultsOf q s a1 a2 a3) = (D_X0_add q s 3 (D_X8_name s a1 a2) a1 a2) from ((if_pos c0).trans ((if_pos c1).trans ((if_pos c2).trans ((if_neg c3).trans rfl))))]
          exact (nn_X0_add hq hN)
      · by_cases c6 : (D_X8_kind s a1 a2) = 1
        · by_cases c7 : ((D_X3_standsFor q s (D_X8_name s a1 a2)) + (D_X8_added s a1 a2)) < 0
          · rw [show (D_X5_tellFaultsOf q s a1 a2 a3) = (D_X0_add q s 4 (D_X8_name s a1 a2) a1 a2) from ((if_pos c0).trans ((if_pos c1).trans ((if_neg c2).trans ((if_pos c6).trans ((if_pos c7).trans rfl)))))]
            exact (nn_X0_add hq hN)
          · by_cases c8 : ((D_X3_standsFor q s (D_X8_name s a1 a2)) + (D_X8_added s a1 a2)) ≤ a3
            · rw [show (D_X5_tellFaultsOf q s a1 a2 a3) = s from ((if_pos c0).trans ((if_pos c1).trans ((if_neg c2).trans ((if_pos c6).trans ((if_neg c7).trans ((if_pos c8).trans rfl))))))]
              exact hN
            · rw [show (D_X5_tellFaultsOf q s a1 a2 a3) = (D_X0_add q s 4 (D_X8_name s a1 a2) a1 a2) from ((if_pos c0).trans ((if_pos c1).trans ((if_neg c2).trans ((if_pos c6).trans ((if_neg c7).trans ((if_neg c8).trans rfl))))))]
              exact (nn_X0_add hq hN)
        · rw [show (D_X5_tellFaultsOf q s a1 a2 a3) = s from ((if_pos c0).trans ((if_pos c1).trans ((if_neg c2).trans ((if_neg c6).trans rfl))))]
          exact hN
    · by_cases c9 : (D_X8_kind s a1 a2) = 1
      · by_cases c10 : ((D_X3_standsFor q s (D_X8_name s a1 a2)) + (D_X8_added s a1 a2)) < 0
        · rw [show (D_X5_tellFaultsOf q s a1 a2 a3) = (D_X0_add q s 4 (D_X8_name s a1 a2) a1 a2) from ((if_pos c0).trans ((if_neg c1).trans ((if_pos c9).trans ((if_pos c10).trans rfl))))]
          exact (nn_X0_add hq hN)
        · by_cases c11 : ((D_X3_standsFor q s (D_X8_name s a1 a2)) + (D_X8_added s a1 a2)) ≤ a3
          · rw [show (D_X5_tellFaultsOf q s a1 a2 a3) = s from ((if_pos c0).trans ((if_neg c1).trans ((if_pos c9).trans ((if_neg c10).trans ((if_pos c11).trans rfl)))))]
            exact hN
          · rw [show (D_X5_tellFaultsOf q s a1 a2 a3) = (D_X0_add q s 4 (D_X8_name s a1 a2) a1 a2) from ((if_pos c0).trans ((if_neg c1).trans ((if_pos c9).trans ((if_neg c10).trans ((if_neg c11).trans rfl)))))]
            exact (nn_X0_add hq hN)
      · rw [show (D_X5_tellFaultsOf q s a1 a2 a3) = s from ((if_pos c0).trans ((if_neg c1).trans ((if_neg c9).trans rfl)))]
        exact hN
  · rw [show (D_X5_tellFaultsOf q s a1 a2 a3) = s from ((if_neg c0).trans rfl)]
    exact hN
theorem fw_X5_tellFaultsOf {q : Nat} {s : Sg} {a1 : Int32} {a2 : Int32} {a3 : Int32} {k j : Nat} (l1f1 : k ≠ q + 1 ∨ j ≠ 1) (l2 : k ≠ q + 2) : (D_X5_tellFaultsOf q s a1 a2 a3) k j = s k j := by
  by_cases c0 : (D_X7_isImport q s (D_X8_name s a1 a2)) = 0
  · by_cases c1 : (D_X9_kind q s (D_X8_name s a1 a2)) = (-1)
    · by_cases c2 : (D_X8_isWeak s a1 a2) = 0
      · by_cases c3 : (D_X8_kind (D_X0_add q s 3 (D_X8_name s a1 a2) a1 a2) a1 a2) = 1
        · by_cases c4 : ((D_X3_standsFor q (D_X0_add q s 3 (D_X8_name s a1 a2) a1 a2) (D_X8_name s a1 a2)) + (D_X8_added (D_X0_add q s 3 (D_X8_name s a1 a2) a1 a2) a1 a2)) < 0
          · rw [show (D_X5_tellFaultsOf q s a1 a2 a3) = (D_X0_add q (D_X0_add q s 3 (D_X8_name s a1 a2) a1 a2) 4 (D_X8_name s a1 a2) a1 a2) from ((if_pos c0).trans ((if_pos c1).trans ((if_pos c2).trans ((if_pos c3).trans ((if_pos c4).trans rfl)))))]
            first | done | exact ((fw_X0_add l1f1 l2).trans ((fw_X0_add l1f1 l2).trans rfl))
          · by_cases c5 : ((D_X3_standsFor q (D_X0_add q s 3 (D_X8_name s a1 a2) a1 a2) (D_X8_name s a1 a2)) + (D_X8_added (D_X0_add q s 3 (D_X8_name s a1 a2) a1 a2) a1 a2)) ≤ a3
            · rw [show (D_X5_tellFaultsOf q s a1 a2 a3) = (D_X0_add q s 3 (D_X8_name s a1 a2) a1 a2) from ((if_pos c0).trans ((if_pos c1).trans ((if_pos c2).trans ((if_pos c3).trans ((if_neg c4).trans ((if_pos c5).trans rfl))))))]
              first | done | exact ((fw_X0_add l1f1 l2).trans rfl)
            · rw [show (D_X5_tellFaultsOf q s a1 a2 a3) = (D_X0_add q (D_X0_add q s 3 (D_X8_name s a1 a2) a1 a2) 4 (D_X8_name s a1 a2) a1 a2) from ((if_pos c0).trans ((if_pos c1).trans ((if_pos c2).trans ((if_pos c3).trans ((if_neg c4).trans ((if_neg c5).trans rfl))))))]
              first | done | exact ((fw_X0_add l1f1 l2).trans ((fw_X0_add l1f1 l2).trans rfl))
        · rw [show (D_X5_tellFaultsOf q s a1 a2 a3) = (D_X0_add q s 3 (D_X8_name s a1 a2) a1 a2) from ((if_pos c0).trans ((if_pos c1).trans ((if_pos c2).trans ((if_neg c3).trans rfl))))]
          first | done | exact ((fw_X0_add l1f1 l2).trans rfl)
      · by_cases c6 : (D_X8_kind s a1 a2) = 1
        · by_cases c7 : ((D_X3_standsFor q s (D_X8_name s a1 a2)) + (D_X8_added s a1 a2)) < 0
          · rw [show (D_X5_tellFaultsOf q s a1 a2 a3) = (D_X0_add q s 4 (D_X8_name s a1 a2) a1 a2) from ((if_pos c0).trans ((if_pos c1).trans ((if_neg c2).trans ((if_pos c6).trans ((if_pos c7).trans rfl)))))]
            first | done | exact ((fw_X0_add l1f1 l2).trans rfl)
          · by_cases c8 : ((D_X3_standsFor q s (D_X8_name s a1 a2)) + (D_X8_added s a1 a2)) ≤ a3
            · rw [show (D_X5_tellFaultsOf q s a1 a2 a3) = s from ((if_pos c0).trans ((if_pos c1).trans ((if_neg c2).trans ((if_pos c6).trans ((if_neg c7).trans ((if_pos c8).trans rfl))))))]
              first | done | exact rfl
            · rw [show (D_X5_tellFaultsOf q s a1 a2 a3) = (D_X0_add q s 4 (D_X8_name s a1 a2) a1 a2) from ((if_pos c0).trans ((if_pos c1).trans ((if_neg c2).trans ((if_pos c6).trans ((if_neg c7).trans ((if_neg c8).trans rfl))))))]
              first | done | exact ((fw_X0_add l1f1 l2).trans rfl)
        · rw [show (D_X5_tellFaultsOf q s a1 a2 a3) = s from ((if_pos c0).trans ((if_pos c1).trans ((if_neg c2).trans ((if_neg c6).trans rfl))))]
          first | done | exact rfl
    · by_cases c9 : (D_X8_kind s a1 a2) = 1
      · by_cases c10 : ((D_X3_standsFor q s (D_X8_name s a1 a2)) + (D_X8_added s a1 a2)) < 0
        · rw [show (D_X5_tellFaultsOf q s a1 a2 a3) = (D_X0_add q s 4 (D_X8_name s a1 a2) a1 a2) from ((if_pos c0).trans ((if_neg c1).trans ((if_pos c9).trans ((if_pos c10).trans rfl))))]
          first | done | exact ((fw_X0_add l1f1 l2).trans rfl)
        · by_cases c11 : ((D_X3_standsFor q s (D_X8_name s a1 a2)) + (D_X8_added s a1 a2)) ≤ a3
          · rw [show (D_X5_tellFaultsOf q s a1 a2 a3) = s from ((if_pos c0).trans ((if_neg c1).trans ((if_pos c9).trans ((if_neg c10).trans ((if_pos c11).trans rfl)))))]
            first | done | exact rfl
          · rw [show (D_X5_tellFaultsOf q s a1 a2 a3) = (D_X0_add q s 4 (D_X8_name s a1 a2) a1 a2) from ((if_pos c0).trans ((if_neg c1).trans ((if_pos c9).trans ((if_neg c10).trans ((if_neg c11).trans rfl)))))]
            first | done | exact ((fw_X0_add l1f1 l2).trans rfl)
      · rw [show (D_X5_tellFaultsOf q s a1 a2 a3) = s from ((if_pos c0).trans ((if_neg c1).trans ((if_neg c9).trans rfl)))]
        first | done | exact rfl
  · rw [show (D_X5_tellFaultsOf q s a1 a2 a3) = s from ((if_neg c0).trans rfl)]
    first | done | exact rfl
end DD
