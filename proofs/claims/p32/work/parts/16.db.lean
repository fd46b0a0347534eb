section DD
variable {sc : Nat × (Nat → Int32)} {b w wl : Nat} {H0 : List EC} {kn : Nat × Nat}
-- LinkHarbour$Layout.addressOfName
noncomputable def D_X3_addressOfName (q : Nat) (s : Sg) (a1 : Int32) : Int32 := (if (D_X11_isName a1) = 0 then (-1) else (s (q + 21) a1.toNatClampNeg))
theorem m_X3_addressOfName (hP : WOK b w H0) {q : Nat} (hq : q = 38 ∨ q = 60) {s : Sg} {a1 : Int32} : Rx sc g_X3_addressOfName 1 ((0, [(0, .ref (b + (q + 15))), (1, .int a1)], [])) (wd b w wl H0 s, kn) (some (.int (D_X3_addressOfName q s a1))) (wd b w wl H0 s, kn) := by
  show Rx sc g_X3_addressOfName 1 (0, [(0, .ref (b + (q + 15))), (1, .int a1)], []) (wd b w wl H0 s, kn) (some (.int (D_X3_addressOfName q s a1))) (wd b w wl H0 s, kn)
  refine rx_k 1 (1, [(0, .ref (b + (q + 15))), (1, .int a1)], [.int a1]) (fun _ _ => rfl) ?_
  refine rx_inv rfl rfl (rc_X11_isName) rfl rfl rfl rfl rfl rfl ?_
  by_cases c0 : (D_X11_isName a1) = 0
  · refine rx_ifT rfl (bt c0) ?_
    refine rx_k 1 (17, [(0, .ref (b + (q + 15))), (1, .int a1)], [.int (-1)]) (fun _ _ => rfl) ?_
    rw [(show (D_X3_addressOfName q s a1) = (-1) from ((if_pos c0).trans rfl))]
    exact rx_ri rfl
  · refine rx_ifF rfl (bf c0) rfl ?_
    refine rx_k 1 (8, [(0, .ref (b + (q + 15))), (1, .int a1)], [.ref (b + (q + 15))]) (fun _ _ => rfl) ?_
    refine rx_getf rfl rfl (wl_15 hP hq) rfl ?_
    refine rx_k 1 (12, [(0, .ref (b + (q + 15))), (1, .int a1)], [.int a1, .ref (b + (q + 21))]) (fun _ _ => rfl) ?_
    refine rx_ild rfl rfl (wl_21 hP hq) (ar_at (rg_isName c0)) ?_
    refine rx_k 1 (17, [(0, .ref (b + (q + 15))), (1, .int a1)], [.int (s (q + 21) a1.toNatClampNeg)]) (fun _ _ => rfl) ?_
    rw [(show (D_X3_addressOfName q s a1) = (s (q + 21) a1.toNatClampNeg) from ((if_neg c0).trans rfl))]
    exact rx_ri rfl
theorem rc_X3_addressOfName (hP : WOK b w H0) {q : Nat} (hq : q = 38 ∨ q = 60) {s : Sg} {a1 : Int32} : Rc sc 2 28 [.ref (b + (q + 15)), .int a1] (wd b w wl H0 s, kn) (some (.int (D_X3_addressOfName q s a1))) (wd b w wl H0 s, kn) := rx_mc (m_X3_addressOfName hP hq) rfl rfl (Nat.ble_eq_true_of_le (Nat.le_refl _)) (Nat.ble_eq_true_of_le (Nat.le_refl _))
-- LinkHarbour$Layout.standsFor
noncomputable def D_X3_standsFor (q : Nat) (s : Sg) (a1 : Int32) : Int32 := (if (D_X11_isName a1) = 0 then 0 else (if (s (q + 21) a1.toNatClampNeg) = (-1) then 0 else (s (q + 21) a1.toNatClampNeg)))
theorem m_X3_standsFor (hP : WOK b w H0) {q : Nat} (hq : q = 38 ∨ q = 60) {s : Sg} {a1 : Int32} : Rx sc g_X3_standsFor 1 ((0, [(0, .ref (b + (q + 15))), (1, .int a1)], [])) (wd b w wl H0 s, kn) (some (.int (D_X3_standsFor q s a1))) (wd b w wl H0 s, kn) := by
  show Rx sc g_X3_standsFor 1 (0, [(0, .ref (b + (q + 15))), (1, .int a1)], []) (wd b w wl H0 s, kn) (some (.int (D_X3_standsFor q s a1))) (wd b w wl H0 s, kn)
  refine rx_k 1 (1, [(0, .ref (b + (q + 15))), (1, .int a1)], [.int a1]) (fun _ _ => rfl) ?_
  refine rx_inv rfl rfl (rc_X11_isName) rfl rfl rfl rfl rfl rfl ?_
  by_cases c0 : (D_X11_isName a1) = 0
  · refine rx_ifT rfl (bt c0) ?_
    refine rx_k 1 (27, [(0, .ref (b + (q + 15))), (1, .int a1)], [.int 0]) (fun _ _ => rfl) ?_
    rw [(show (D_X3_standsFor q s a1) = 0 from ((if_pos c0).trans rfl))]
    exact rx_ri rfl
  · refine rx_ifF rfl (bf c0) rfl ?_
    refine rx_k 1 (8, [(0, .ref (b + (q + 15))), (1, .int a1)], [.ref (b + (q + 15))]) (fun _ _ => rfl) ?_
    refine rx_getf rfl rfl (wl_15 hP hq) rfl ?_
    refine rx_k 1 (12, [(0, .ref (b + (q + 15))), (1, .int a1)], [.int a1, .ref (b + (q + 21))]) (fun _ _ => rfl) ?_
    refine rx_ild rfl rfl (wl_21 hP hq) (ar_at (rg_isName c0)) ?_
    refine rx_k 1 (14, [(0, .ref (b + (q + 15))), (1, .int a1)], [.int (-1), .int (s (q + 21) a1.toNatClampNeg)]) (fun _ _ => rfl) ?_
    by_cases c1 : (s (q + 21) a1.toNatClampNeg) = (-1)
    · refine rx_icT rfl (bt c1) ?_
      refine rx_k 1 (27, [(0, .ref (b + (q + 15))), (1, .int a1)], [.int 0]) (fun _ _ => rfl) ?_
      rw [(show (D_X3_standsFor q s a1) = 0 from ((if_neg c0).trans ((if_pos c1).trans rfl)))]
      exact rx_ri rfl
    · refine rx_icF rfl (bf c1) rfl ?_
      refine rx_k 1 (18, [(0, .ref (b + (q + 15))), (1, .int a1)], [.ref (b + (q + 15))]) (fun _ _ => rfl) ?_
      refine rx_getf rfl rfl (wl_15 hP hq) rfl ?_
      refine rx_k 1 (22, [(0, .ref (b + (q + 15))), (1, .int a1)], [.int a1, .ref (b + (q + 21))]) (fun _ _ => rfl) ?_
      refine rx_ild rfl rfl (wl_21 hP hq) (ar_at (rg_isName c0)) ?_
      refine rx_k 1 (27, [(0, .ref (b + (q + 15))), (1, .int a1)], [.int (s (q + 21) a1.toNatClampNeg)]) (fun _ _ => rfl) ?_
      rw [(show (D_X3_standsFor q s a1) = (s (q + 21) a1.toNatClampNeg) from ((if_neg c0).trans ((if_neg c1).trans rfl)))]
      exact rx_ri rfl
theorem rc_X3_standsFor (hP : WOK b w H0) {q : Nat} (hq : q = 38 ∨ q = 60) {s : Sg} {a1 : Int32} : Rc sc 2 29 [.ref (b + (q + 15)), .int a1] (wd b w wl H0 s, kn) (some (.int (D_X3_standsFor q s a1))) (wd b w wl H0 s, kn) := rx_mc (m_X3_standsFor hP hq) rfl rfl (Nat.ble_eq_true_of_le (Nat.le_refl _)) (Nat.ble_eq_true_of_le (Nat.le_refl _))
-- LinkHarbour$Layout.width
noncomputable def D_X3_width (q : Nat) (s : Sg) (a1 : Int32) (a2 : Int32) : Int32 := (if (D_X11_isIn a1 24) = 0 then 0 else (if (D_X11_isIn a2 8) = 0 then 0 else (s (q + 20) ((a1 * 8) + a2).toNatClampNeg)))
theorem m_X3_width (hP : WOK b w H0) {q : Nat} (hq : q = 38 ∨ q = 60) {s : Sg} {a1 : Int32} {a2 : Int32} : Rx sc g_X3_width 1 ((0, [(0, .ref (b + (q + 15))), (1, .int a1), (2, .int a2)], [])) (wd b w wl H0 s, kn) (some (.int (D_X3_width q s a1 a2))) (wd b w wl H0 s, kn) := by
  show Rx sc g_X3_width 1 (0, [(0, .ref (b + (q + 15))), (1, .int a1), (2, .int a2)], []) (wd b w wl H0 s, kn) (some (.int (D_X3_width q s a1 a2))) (wd b w wl H0 s, kn)
  refine rx_k 2 (3, [(0, .ref (b + (q + 15))), (1, .int a1), (2, .int a2)], [.int 24, .int a1]) (fun _ _ => rfl) ?_
  refine rx_inv rfl rfl (rc_X11_isIn) rfl rfl rfl rfl rfl rfl ?_
  by_cases c0 : (D_X11_isIn a1 24) = 0
  · refine rx_ifT rfl (bt c0) ?_
    refine rx_k 1 (33, [(0, .ref (b + (q + 15))), (1, .int a1), (2, .int a2)], [.int 0]) (fun _ _ => rfl) ?_
    rw [(show (D_X3_width q s a1 a2) = 0 from ((if_pos c0).trans rfl))]
    exact rx_ri rfl
  · refine rx_ifF rfl (bf c0) rfl ?_
    refine rx_k 2 (12, [(0, .ref (b + (q + 15))), (1, .int a1), (2, .int a2)], [.int 8, .int a2]) (fun _ _ => rfl) ?_
    refine rx_inv rfl rfl (rc_X11_isIn) rfl rfl rfl rfl rfl rfl ?_
    by_cases c1 : (D_X11_isIn a2 8) = 0
    · refine rx_ifT rfl (bt c1) ?_
      refine rx_k 1 (33, [(0, .ref (b + (q + 15))), (1, .int a1), (2, .int a2)], [.int 0]) (fun _ _ => rfl) ?_
      rw [(show (D_X3_width q s a1 a2) = 0 from ((if_neg c0).trans ((if_pos c1).trans rfl)))]
      exact rx_ri rfl
    · refine rx_ifF rfl (bf c1) rfl ?_
      refine rx_k 1 (19, [(0, .ref (b + (q + 15))), (1, .int a1), (2, .int a2)], [.ref (b + (q + 15))]) (fun _ _ => rfl) ?_
      refine rx_getf rfl rfl (wl_15 hP hq) rfl ?_
      refine rx_k 5 (28, [(0, .ref (b + (q + 15))), (1, .int a1), (2, .int a2)], [.int ((a1 * 8) + a2), .ref (b + (q + 20))]) (fun _ _ => rfl) ?_
      refine rx_ild rfl rfl (wl_20 hP hq) (ar_at (i_mul_add 8 8 rfl (rg_isIn c0 (m := 24) (n := 24) rfl) (rg_isIn c1 (m := 8) (n := 8) rfl) (by decide) (by decide))) ?_
      refine rx_k 1 (33, [(0, .ref (b + (q + 15))), (1, .int a1), (2, .int a2)], [.int (s (q + 20) ((a1 * 8) + a2).toNatClampNeg)]) (fun _ _ => rfl) ?_
      rw [(show (D_X3_width q s a1 a2) = (s (q + 20) ((a1 * 8) + a2).toNatClampNeg) from ((if_neg c0).trans ((if_neg c1).trans rfl)))]
      exact rx_ri rfl
theorem rc_X3_width (hP : WOK b w H0) {q : Nat} (hq : q = 38 ∨ q = 60) {s : Sg} {a1 : Int32} {a2 : Int32} : Rc sc 2 30 [.ref (b + (q + 15)), .int a1, .int a2] (wd b w wl H0 s, kn) (some (.int (D_X3_width q s a1 a2))) (wd b w wl H0 s, kn) := rx_mc (m_X3_width hP hq) rfl rfl (Nat.ble_eq_true_of_le (Nat.le_refl _)) (Nat.ble_eq_true_of_le (Nat.le_refl _))
-- LinkHarbour$Taking.count
noncomputable def D_X10_count (q : Nat) (s : Sg) : Int32 := (s (q + 3) 3)
theorem m_X10_count (hP : WOK b w H0) {q : Nat} (hq : q = 38 ∨ q = 60) {s : Sg} : Rx sc g_X10_count 0 ((0, [(0, .ref (b + (q + 3)))], [])) (wd b w wl H0 s, kn) (some (.int (D_X10_count q s))) (wd b w wl H0 s, kn) := by
  show Rx sc g_X10_count 0 (0, [(0, .ref (b + (q + 3)))], []) (wd b w wl H0 s, kn) (some (.int (D_X10_count q s))) (wd b w wl H0 s, kn)
  refine rx_k 1 (1, [(0, .ref (b + (q + 3)))], [.ref (b + (q + 3))]) (fun _ _ => rfl) ?_
  refine rx_getf rfl rfl (wl_3 hP hq) rfl ?_
  rw [(show (D_X10_count q s) = (s (q + 3) 3) from rfl)]
  exact rx_ri rfl
theorem rc_X10_count (hP : WOK b w H0) {q : Nat} (hq : q = 38 ∨ q = 60) {s : Sg} : Rc sc 1 149 [.ref (b + (q + 3))] (wd b w wl H0 s, kn) (some (.int (D_X10_count q s))) (wd b w wl H0 s, kn) := rx_mc (m_X10_count hP hq) rfl rfl (Nat.ble_eq_true_of_le (Nat.le_refl _)) (Nat.ble_eq_true_of_le (Nat.le_refl _))
-- LinkHarbour$Taking.objectAt
noncomputable def D_X10_objectAt (q : Nat) (s : Sg) (a1 : Int32) : Int32 := (if a1 < 0 then (-1) else (if (s (q + 3) 3) ≤ a1 then (-1) else (if 10 ≤ a1 then (-1) else (s (q + 4) a1.toNatClampNeg))))
theorem m_X10_objectAt (hP : WOK b w H0) {q : Nat} (hq : q = 38 ∨ q = 60) {s : Sg} {a1 : Int32} : Rx sc g_X10_objectAt 0 ((0, [(0, .ref (b + (q + 3))), (1, .int a1)], [])) (wd b w wl H0 s, kn) (some (.int (D_X10_objectAt q s a1))) (wd b w wl H0 s, kn) := by
  show Rx sc g_X10_objectAt 0 (0, [(0, .ref (b + (q + 3))), (1, .int a1)], []) (wd b w wl H0 s, kn) (some (.int (D_X10_objectAt q s a1))) (wd b w wl H0 s, kn)
  refine rx_k 1 (1, [(0, .ref (b + (q + 3))), (1, .int a1)], [.int a1]) (fun _ _ => rfl) ?_
  by_cases c0 : a1 < 0
  · refine rx_ifT rfl (bt c0) ?_
    refine rx_k 1 (28, [(0, .ref (b + (q + 3))), (1, .int a1)], [.int (-1)]) (fun _ _ => rfl) ?_
    rw [(show (D_X10_objectAt q s a1) = (-1) from ((if_pos c0).trans rfl))]
    exact rx_ri rfl
  · refine rx_ifF rfl (bf c0) rfl ?_
    refine rx_k 2 (6, [(0, .ref (b + (q + 3))), (1, .int a1)], [.ref (b + (q + 3)), .int a1]) (fun _ _ => rfl) ?_
    refine rx_getf rfl rfl (wl_3 hP hq) rfl ?_
    by_cases c1 : (s (q + 3) 3) ≤ a1
    · refine rx_icT rfl (bt c1) ?_
      refine rx_k 1 (28, [(0, .ref (b + (q + 3))), (1, .int a1)], [.int (-1)]) (fun _ _ => rfl) ?_
      rw [(show (D_X10_objectAt q s a1) = (-1) from ((if_neg c0).trans ((if_pos c1).trans rfl)))]
      exact rx_ri rfl
    · refine rx_icF rfl (bf c1) rfl ?_
      refine rx_k 2 (15, [(0, .ref (b + (q + 3))), (1, .int a1)], [.int 10, .int a1]) (fun _ _ => rfl) ?_
      by_cases c2 : 10 ≤ a1
      · refine rx_icT rfl (bt c2) ?_
        refine rx_k 1 (28, [(0, .ref (b + (q + 3))), (1, .int a1)], [.int (-1)]) (fun _ _ => rfl) ?_
        rw [(show (D_X10_objectAt q s a1) = (-1) from ((if_neg c0).trans ((if_neg c1).trans ((if_pos c2).trans rfl))))]
        exact rx_ri rfl
      · refine rx_icF rfl (bf c2) rfl ?_
        refine rx_k 1 (19, [(0, .ref (b + (q + 3))), (1, .int a1)], [.ref (b + (q + 3))]) (fun _ _ => rfl) ?_
        refine rx_getf rfl rfl (wl_3 hP hq) rfl ?_
        refine rx_k 1 (23, [(0, .ref (b + (q + 3))), (1, .int a1)], [.int a1, .ref (b + (q + 4))]) (fun _ _ => rfl) ?_
        refine rx_ild rfl rfl (wl_4 hP hq) (ar_at (rg_c (i_ge c0 rfl) c2 (m := 10) (n := 10) rfl)) ?_
        refine rx_k 1 (28, [(0, .ref (b + (q + 3))), (1, .int a1)], [.int (s (q + 4) a1.toNatClampNeg)]) (fun _ _ => rfl) ?_
        rw [(show (D_X10_objectAt q s a1) = (s (q + 4) a1.toNatClampNeg) from ((if_neg c0).trans ((if_neg c1).trans ((if_neg c2).trans rfl))))]
        exact rx_ri rfl
theorem rc_X10_objectAt (hP : WOK b w H0) {q : Nat} (hq : q = 38 ∨ q = 60) {s : Sg} {a1 : Int32} : Rc sc 1 150 [.ref (b + (q + 3)), .int a1] (wd b w wl H0 s, kn) (some (.int (D_X10_objectAt q s a1))) (wd b w wl H0 s, kn) := rx_mc (m_X10_objectAt hP hq) rfl rfl (Nat.ble_eq_true_of_le (Nat.le_refl _)) (Nat.ble_eq_true_of_le (Nat.le_refl _))
-- LinkHarbour$SectionTable.count
noncomputable def D_X8_count (s : Sg) : Int32 := (s 11 8)
theorem m_X8_count (hP : WOK b w H0) {s : Sg} : Rx sc g_X8_count 0 ((0, [(0, .ref (b + 11))], [])) (wd b w wl H0 s, kn) (some (.int (D_X8_count s))) (wd b w wl H0 s, kn) := by
  show Rx sc g_X8_count 0 (0, [(0, .ref (b + 11))], []) (wd b w wl H0 s, kn) (some (.int (D_X8_count s))) (wd b w wl H0 s, kn)
  refine rx_k 1 (1, [(0, .ref (b + 11))], [.ref (b + 11)]) (fun _ _ => rfl) ?_
  refine rx_getf rfl rfl (wg_11 hP) rfl ?_
  rw [(show (D_X8_count s) = (s 11 8) from rfl)]
  exact rx_ri rfl
theorem rc_X8_count (hP : WOK b w H0) {s : Sg} : Rc sc 1 117 [.ref (b + 11)] (wd b w wl H0 s, kn) (some (.int (D_X8_count s))) (wd b w wl H0 s, kn) := rx_mc (m_X8_count hP) rfl rfl (Nat.ble_eq_true_of_le (Nat.le_refl _)) (Nat.ble_eq_true_of_le (Nat.le_refl _))
-- LinkHarbour$SectionTable.has
noncomputable def D_X8_has (s : Sg) (a1 : Int32) : Int32 := (if a1 < 0 then 0 else (if (s 11 8) ≤ a1 then 0 else (if 24 ≤ a1 then 0 else 1)))
theorem m_X8_has (hP : WOK b w H0) {s : Sg} {a1 : Int32} : Rx sc g_X8_has 0 ((0, [(0, .ref (b + 11)), (1, .int a1)], [])) (wd b w wl H0 s, kn) (some (.int (D_X8_has s a1))) (wd b w wl H0 s, kn) := by
  show Rx sc g_X8_has 0 (0, [(0, .ref (b + 11)), (1, .int a1)], []) (wd b w wl H0 s, kn) (some (.int (D_X8_has s a1))) (wd b w wl H0 s, kn)
  refine rx_k 1 (1, [(0, .ref (b + 11)), (1, .int a1)], [.int a1]) (fun _ _ => rfl) ?_
  by_cases c0 : a1 < 0
  · refine rx_ifT rfl (bt c0) ?_
    refine rx_k 1 (23, [(0, .ref (b + 11)), (1, .int a1)], [.int 0]) (fun _ _ => rfl) ?_
    rw [(show (D_X8_has s a1) = 0 from ((if_pos c0).trans rfl))]
    exact rx_ri rfl
  · refine rx_ifF rfl (bf c0) rfl ?_
    refine rx_k 2 (6, [(0, .ref (b + 11)), (1, .int a1)], [.ref (b + 11), .int a1]) (fun _ _ => rfl) ?_
    refine rx_getf rfl rfl (wg_11 hP) rfl ?_
    by_cases c1 : (s 11 8) ≤ a1
    · refine rx_icT rfl (bt c1) ?_
      refine rx_k 1 (23, [(0, .ref (b + 11)), (1, .int a1)], [.int 0]) (fun _ _ => rfl) ?_
      rw [(show (D_X8_has s a1) = 0 from ((if_neg c0).trans ((if_pos c1).trans rfl)))]
      exact rx_ri rfl
    · refine rx_icF rfl (bf c1) rfl ?_
      refine rx_k 2 (15, [(0, .ref (b + 11)), (1, .int a1)], [.int 24, .int a1]) (fun _ _ => rfl) ?_
      by_cases c2 : 24 ≤ a1
      · refine rx_icT rfl (bt c2) ?_
        refine rx_k 1 (23, [(0, .ref (b + 11)), (1, .int a1)], [.int 0]) (fun _ _ => rfl) ?_
        rw [(show (D_X8_has s a1) = 0 from ((if_neg c0).trans ((if_neg c1).trans ((if_pos c2).trans rfl))))]
        exact rx_ri rfl
      · refine rx_icF rfl (bf c2) rfl ?_
        refine rx_k 2 (23, [(0, .ref (b + 11)), (1, .int a1)], [.int 1]) (fun _ _ => rfl) ?_
        rw [(show (D_X8_has s a1) = 1 from ((if_neg c0).trans ((if_neg c1).trans ((if_neg c2).trans rfl))))]
        exact rx_ri rfl
theorem bz_X8_has {s : Sg} {a1 : Int32} : bz (D_X8_has s a1) = true := by
  by_cases c0 : a1 < 0
  · rw [show (D_X8_has s a1) = 0 from ((if_pos c0).trans rfl)]
    exact rfl
  · by_cases c1 : (s 11 8) ≤ a1
    · rw [show (D_X8_has s a1) = 0 from ((if_neg c0).trans ((if_pos c1).trans rfl))]
      exact rfl
    · by_cases c2 : 24 ≤ a1
      · rw [show (D_X8_has s a1) = 0 from ((if_neg c0).trans ((if_neg c1).trans ((if_pos c2).trans rfl)))]
        exact rfl
      · rw [show (D_X8_has s a1) = 1 from ((if_neg c0).trans ((if_neg c1).trans ((if_neg c2).trans rfl)))]
        exact rfl
theorem rc_X8_has (hP : WOK b w H0) {s : Sg} {a1 : Int32} : Rc sc 1 119 [.ref (b + 11), .int a1] (wd b w wl H0 s, kn) (some (.int (D_X8_has s a1))) (wd b w wl H0 s, kn) := rx_mc (m_X8_has hP) rfl (bz_X8_has ..) (Nat.ble_eq_true_of_le (Nat.le_refl _)) (Nat.ble_eq_true_of_le (Nat.le_refl _))
theorem rg_X8_has {s : Sg} {a : Int32} (h : ¬ D_X8_has s a = 0) : rg a 24 := by
  unfold D_X8_has at h
  split at h <;> first | exact absurd rfl h | skip
  split at h <;> first | exact absurd rfl h | skip
  split at h <;> first | exact absurd rfl h | skip
  exact rg_b (by assumption) (by assumption) (m := 24) rfl
theorem has_8 {s : Sg} {a : Int32} (h1 : 0 ≤ a.toInt) (h2 : ¬ D_X8_count s ≤ a) (h3 : (s 11 8).toInt ≤ 24) : ¬ D_X8_has s a = 0 := by
  have h4 : ¬ s 11 8 ≤ a := h2
  have h5 : a.toInt < (s 11 8).toInt := Int32.lt_iff_toInt_lt.mp (Int32.not_le.mp h4)
  unfold D_X8_has
  rw [if_neg (n_lt h1), if_neg h4, if_neg (n_le (m := 24) (n := 24) (by omega) rfl)]
  decide
-- LinkHarbour$SectionTable.objectOf
noncomputable def D_X8_objectOf (s : Sg) (a1 : Int32) : Int32 := (if (D_X8_has s a1) = 0 then (-1) else (s 12 a1.toNatClampNeg))
theorem m_X8_objectOf (hP : WOK b w H0) {s : Sg} {a1 : Int32} : Rx sc g_X8_objectOf 1 ((0, [(0, .ref (b + 11)), (1, .int a1)], [])) (wd b w wl H0 s, kn) (some (.int (D_X8_objectOf s a1))) (wd b w wl H0 s, kn) := by
  show Rx sc g_X8_objectOf 1 (0, [(0, .ref (b + 11)), (1, .int a1)], []) (wd b w wl H0 s, kn) (some (.int (D_X8_objectOf s a1))) (wd b w wl H0 s, kn)
  refine rx_k 2 (2, [(0, .ref (b + 11)), (1, .int a1)], [.int a1, .ref (b + 11)]) (fun _ _ => rfl) ?_
  refine rx_inv rfl rfl (rc_X8_has hP) rfl rfl rfl (q_recv (wg_11 hP)) rfl rfl ?_
  by_cases c0 : (D_X8_has s a1) = 0
  · refine rx_ifT rfl (bt c0) ?_
    refine rx_k 1 (18, [(0, .ref (b + 11)), (1, .int a1)], [.int (-1)]) (fun _ _ => rfl) ?_
    rw [(show (D_X8_objectOf s a1) = (-1) from ((if_pos c0).trans rfl))]
    exact rx_ri rfl
  · refine rx_ifF rfl (bf c0) rfl ?_
    refine rx_k 1 (9, [(0, .ref (b + 11)), (1, .int a1)], [.ref (b + 11)]) (fun _ _ => rfl) ?_
    refine rx_getf rfl rfl (wg_11 hP) rfl ?_
    refine rx_k 1 (13, [(0, .ref (b + 11)), (1, .int a1)], [.int a1, .ref (b + 12)]) (fun _ _ => rfl) ?_
    refine rx_ild rfl rfl (wg_12 hP) (ar_at (rg_X8_has c0)) ?_
    refine rx_k 1 (18, [(0, .ref (b + 11)), (1, .int a1)], [.int (s 12 a1.toNatClampNeg)]) (fun _ _ => rfl) ?_
    rw [(show (D_X8_objectOf s a1) = (s 12 a1.toNatClampNeg) from ((if_neg c0).trans rfl))]
    exact rx_ri rfl
theorem rc_X8_objectOf (hP : WOK b w H0) {s : Sg} {a1 : Int32} : Rc sc 2 123 [.ref (b + 11), .int a1] (wd b w wl H0 s, kn) (some (.int (D_X8_objectOf s a1))) (wd b w wl H0 s, kn) := rx_mc (m_X8_objectOf hP) rfl rfl (Nat.ble_eq_true_of_le (Nat.le_refl _)) (Nat.ble_eq_true_of_le (Nat.le_refl _))
-- LinkHarbour$SectionTable.hasPiece
noncomputable def D_X8_hasPiece (s : Sg) (a1 : Int32) (a2 : Int32) : Int32 := (if a1 < 0 then 0 else (if 24 ≤ a1 then 0 else (if a2 < 0 then 0 else (if 8 ≤ a2 then 0 else (if (s 15 a1.toNatClampNeg) ≤ a2 then 0 else 1)))))
theorem m_X8_hasPiece (hP : WOK b w H0) {s : Sg} {a1 : Int32} {a2 : Int32} : Rx sc g_X8_hasPiece 0 ((0, [(0, .ref (b + 11)), (1, .int a1), (2, .int a2)], [])) (wd b w wl H0 s, kn) (some (.int (D_X8_hasPiece s a1 a2))) (wd b w wl H0 s, kn) := by
  show Rx sc g_X8_hasPiece 0 (0, [(0, .ref (b + 11)), (1, .int a1), (2, .int a2)], []) (wd b w wl H0 s, kn) (some (.int (D_X8_hasPiece s a1 a2))) (wd b w wl H0 s, kn)
  refine rx_k 1 (1, [(0, .ref (b + 11)), (1, .int a1), (2, .int a2)], [.int a1]) (fun _ _ => rfl) ?_
  by_cases c0 : a1 < 0
  · refine rx_ifT rfl (bt c0) ?_
    refine rx_k 1 (35, [(0, .ref (b + 11)), (1, .int a1), (2, .int a2)], [.int 0]) (fun _ _ => rfl) ?_
    rw [(show (D_X8_hasPiece s a1 a2) = 0 from ((if_pos c0).trans rfl))]
    exact rx_ri rfl
  · refine rx_ifF rfl (bf c0) rfl ?_
    refine rx_k 2 (7, [(0, .ref (b + 11)), (1, .int a1), (2, .int a2)], [.int 24, .int a1]) (fun _ _ => rfl) ?_
    by_cases c1 : 24 ≤ a1
    · refine rx_icT rfl (bt c1) ?_
      refine rx_k 1 (35, [(0, .ref (b + 11)), (1, .int a1), (2, .int a2)], [.int 0]) (fun _ _ => rfl) ?_
      rw [(show (D_X8_hasPiece s a1 a2) = 0 from ((if_neg c0).trans ((if_pos c1).trans rfl)))]
      exact rx_ri rfl
    · refine rx_icF rfl (bf c1) rfl ?_
      refine rx_k 1 (11, [(0, .ref (b + 11)), (1, .int a1), (2, .int a2)], [.int a2]) (fun _ _ => rfl) ?_
      by_cases c2 : a2 < 0
      · refine rx_ifT rfl (bt c2) ?_
        refine rx_k 1 (35, [(0, .ref (b + 11)), (1, .int a1), (2, .int a2)], [.int 0]) (fun _ _ => rfl) ?_
        rw [(show (D_X8_hasPiece s a1 a2) = 0 from ((if_neg c0).trans ((if_neg c1).trans ((if_pos c2).trans rfl))))]
        exact rx_ri rfl
      · refine rx_ifF rfl (bf c2) rfl ?_
        refine rx_k 2 (17, [(0, .ref (b + 11)), (1, .int a1), (2, .int a2)], [.int 8, .int a2]) (fun _ _ => rfl) ?_
        by_cases c3 : 8 ≤ a2
        · refine rx_icT rfl (bt c3) ?_
          refine rx_k 1 (35, [(0, .ref (b + 11)), (1, .int a1), (2, .int a2)], [.int 0]) (fun _ _ => rfl) ?_
          rw [(show (D_X8_hasPiece s a1 a2) = 0 from ((if_neg c0).trans ((if_neg c1).trans ((if_neg c2).trans ((if_pos c3).trans rfl)))))]
          exact rx_ri rfl
        · refine rx_icF rfl (bf c3) rfl ?_
          refine rx_k 2 (22, [(0, .ref (b + 11)), (1, .int a1), (2, .int a2)], [.ref (b + 11), .int a2]) (fun _ _ => rfl) ?_
          refine rx_getf rfl rfl (wg_11 hP) rfl ?_
          refine rx_k 1 (26, [(0, .ref (b + 11)), (1, .int a1), (2, .int a2)], [.int a1, .ref (b + 15), .int a2]) (fun _ _ => rfl) ?_
          refine rx_ild rfl rfl (wg_15 hP) (ar_at (rg_c (i_ge c0 rfl) c1 (m := 24) (n := 24) rfl)) ?_
          by_cases c4 : (s 15 a1.toNatClampNeg) ≤ a2
          · refine rx_icT rfl (bt c4) ?_
            refine rx_k 1 (35, [(0, .ref (b + 11)), (1, .int a1), (2, .int a2)], [.int 0]) (fun _ _ => rfl) ?_
            rw [(show (D_X8_hasPiece s a1 a2) = 0 from ((if_neg c0).trans ((if_neg c1).trans ((if_neg c2).trans ((if_neg c3).trans ((if_pos c4).trans rfl))))))]
            exact rx_ri rfl
          · refine rx_icF rfl (bf c4) rfl ?_
            refine rx_k 2 (35, [(0, .ref (b + 11)), (1, .int a1), (2, .int a2)], [.int 1]) (fun _ _ => rfl) ?_
            rw [(show (D_X8_hasPiece s a1 a2) = 1 from ((if_neg c0).trans ((if_neg c1).trans ((if_neg c2).trans ((if_neg c3).trans ((if_neg c4).trans rfl))))))]
            exact rx_ri rfl
theorem bz_X8_hasPiece {s : Sg} {a1 : Int32} {a2 : Int32} : bz (D_X8_hasPiece s a1 a2) = true := by
  by_cases c0 : a1 < 0
  · rw [show (D_X8_hasPiece s a1 a2) = 0 from ((if_pos c0).trans rfl)]
    exact rfl
  · by_cases c1 : 24 ≤ a1
    · rw [show (D_X8_hasPiece s a1 a2) = 0 from ((if_neg c0).trans ((if_pos c1).trans rfl))]
      exact rfl
    · by_cases c2 : a2 < 0
      · rw [show (D_X8_hasPiece s a1 a2) = 0 from ((if_neg c0).trans ((if_neg c1).trans ((if_pos c2).trans rfl)))]
        exact rfl
      · by_cases c3 : 8 ≤ a2
        · rw [show (D_X8_hasPiece s a1 a2) = 0 from ((if_neg c0).trans ((if_neg c1).trans ((if_neg c2).trans ((if_pos c3).trans rfl))))]
          exact rfl
        · by_cases c4 : (s 15 a1.toNatClampNeg) ≤ a2
          · rw [show (D_X8_hasPiece s a1 a2) = 0 from ((if_neg c0).trans ((if_neg c1).trans ((if_neg c2).trans ((if_neg c3).trans ((if_pos c4).trans rfl)))))]
            exact rfl
          · rw [show (D_X8_hasPiece s a1 a2) = 1 from ((if_neg c0).trans ((if_neg c1).trans ((if_neg c2).trans ((if_neg c3).trans ((if_neg c4).trans rfl)))))]
            exact rfl
theorem rc_X8_hasPiece (hP : WOK b w H0) {s : Sg} {a1 : Int32} {a2 : Int32} : Rc sc 1 128 [.ref (b + 11), .int a1, .int a2] (wd b w wl H0 s, kn) (some (.int (D_X8_hasPiece s a1 a2))) (wd b w wl H0 s, kn) := rx_mc (m_X8_hasPiece hP) rfl (bz_X8_hasPiece ..) (Nat.ble_eq_true_of_le (Nat.le_refl _)) (Nat.ble_eq_true_of_le (Nat.le_refl _))
theorem rg_X8_hasPiece1 {s : Sg} {a c : Int32} (h : ¬ D_X8_hasPiece s a c = 0) : rg a 24 := by
  unfold D_X8_hasPiece at h
  repeat' (split at h <;> first | exact absurd rfl h | skip)
  exact rg_b (by assumption) (by assumption) (m := 24) rfl
theorem rg_X8_hasPiece2 {s : Sg} {a c : Int32} (h : ¬ D_X8_hasPiece s a c = 0) : rg c 8 := by
  unfold D_X8_hasPiece at h
  repeat' (split at h <;> first | exact absurd rfl h | skip)
  exact rg_b (by assumption) (by assumption) (m := 8) rfl
-- LinkHarbour$SectionTable.words
noncomputable def D_X8_words (s : Sg) (a1 : Int32) (a2 : Int32) : Int32 := (if (D_X8_hasPiece s a1 a2) = 0 then 0 else (if (s 16 ((a1 * 8) + a2).toNatClampNeg) = 0 then (s 17 ((a1 * 8) + a2).toNatClampNeg) else (if (s 16 ((a1 * 8) + a2).toNatClampNeg) = 1 then 1 else 2)))
theorem m_X8_words (hP : WOK b w H0) {s : Sg} {a1 : Int32} {a2 : Int32} : Rx sc g_X8_words 1 ((0, [(0, .ref (b + 11)), (1, .int a1), (2, .int a2)], [])) (wd b w wl H0 s, kn) (some (.int (D_X8_words s a1 a2))) (wd b w wl H0 s, kn) := by
  show Rx sc g_X8_words 1 (0, [(0, .ref (b + 11)), (1, .int a1), (2, .int a2)], []) (wd b w wl H0 s, kn) (some (.int (D_X8_words s a1 a2))) (wd b w wl H0 s, kn)
  refine rx_k 3 (3, [(0, .ref (b + 11)), (1, .int a1), (2, .int a2)], [.int a2, .int a1, .ref (b + 11)]) (fun _ _ => rfl) ?_
  refine rx_inv rfl rfl (rc_X8_hasPiece hP) rfl rfl rfl (q_recv (wg_11 hP)) rfl rfl ?_
  by_cases c0 : (D_X8_hasPiece s a1 a2) = 0
  · refine rx_ifF rfl (nf c0) rfl ?_
    refine rx_k 1 (10, [(0, .ref (b + 11)), (1, .int a1), (2, .int a2)], [.int 0]) (fun _ _ => rfl) ?_
    rw [(show (D_X8_words s a1 a2) = 0 from ((if_pos c0).trans rfl))]
    exact rx_ri rfl
  · refine rx_ifT rfl (nt c0) ?_
    refine rx_k 7 (19, [(3, .int ((a1 * 8) + a2)), (0, .ref (b + 11)), (1, .int a1), (2, .int a2)], [.ref (b + 11)]) (fun _ _ => rfl) ?_
    refine rx_getf rfl rfl (wg_11 hP) rfl ?_
    refine rx_k 1 (23, [(3, .int ((a1 * 8) + a2)), (0, .ref (b + 11)), (1, .int a1), (2, .int a2)], [.int ((a1 * 8) + a2), .ref (b + 16)]) (fun _ _ => rfl) ?_
    refine rx_ild rfl rfl (wg_16 hP) (ar_at (i_mul_add 8 8 rfl (rg_X8_hasPiece1 c0) (rg_X8_hasPiece2 c0) (by decide) (by decide))) ?_
    by_cases c1 : (s 16 ((a1 * 8) + a2).toNatClampNeg) = 0
    · refine rx_ifF rfl (nf c1) rfl ?_
      refine rx_k 1 (28, [(3, .int ((a1 * 8) + a2)), (0, .ref (b + 11)), (1, .int a1), (2, .int a2)], [.ref (b + 11)]) (fun _ _ => rfl) ?_
      refine rx_getf rfl rfl (wg_11 hP) rfl ?_
      refine rx_k 1 (32, [(3, .int ((a1 * 8) + a2)), (0, .ref (b + 11)), (1, .int a1), (2, .int a2)], [.int ((a1 * 8) + a2), .ref (b + 17)]) (fun _ _ => rfl) ?_
      refine rx_ild rfl rfl (wg_17 hP) (ar_at (i_mul_add 8 8 rfl (rg_X8_hasPiece1 c0) (rg_X8_hasPiece2 c0) (by decide) (by decide))) ?_
      rw [(show (D_X8_words s a1 a2) = (s 17 ((a1 * 8) + a2).toNatClampNeg) from ((if_neg c0).trans ((if_pos c1).trans rfl)))]
      exact rx_ri rfl
    · refine rx_ifT rfl (nt c1) ?_
      refine rx_k 1 (35, [(3, .int ((a1 * 8) + a2)), (0, .ref (b + 11)), (1, .int a1), (2, .int a2)], [.ref (b + 11)]) (fun _ _ => rfl) ?_
      refine rx_getf rfl rfl (wg_11 hP) rfl ?_
      refine rx_k 1 (39, [(3, .int ((a1 * 8) + a2)), (0, .ref (b + 11)), (1, .int a1), (2, .int a2)], [.int ((a1 * 8) + a2), .ref (b + 16)]) (fun _ _ => rfl) ?_
      refine rx_ild rfl rfl (wg_16 hP) (ar_at (i_mul_add 8 8 rfl (rg_X8_hasPiece1 c0) (rg_X8_hasPiece2 c0) (by decide) (by decide))) ?_
      refine rx_k 1 (41, [(3, .int ((a1 * 8) + a2)), (0, .ref (b + 11)), (1, .int a1), (2, .int a2)], [.int 1, .int (s 16 ((a1 * 8) + a2).toNatClampNeg)]) (fun _ _ => rfl) ?_
      by_cases c2 : (s 16 ((a1 * 8) + a2).toNatClampNeg) = 1
      · refine rx_icF rfl (nf c2) rfl ?_
        refine rx_k 2 (49, [(3, .int ((a1 * 8) + a2)), (0, .ref (b + 11)), (1, .int a1), (2, .int a2)], [.int 1]) (fun _ _ => rfl) ?_
        rw [(show (D_X8_words s a1 a2) = 1 from ((if_neg c0).trans ((if_neg c1).trans ((if_pos c2).trans rfl))))]
        exact rx_ri rfl
      · refine rx_icT rfl (nt c2) ?_
        refine rx_k 1 (49, [(3, .int ((a1 * 8) + a2)), (0, .ref (b + 11)), (1, .int a1), (2, .int a2)], [.int 2]) (fun _ _ => rfl) ?_
        rw [(show (D_X8_words s a1 a2) = 2 from ((if_neg c0).trans ((if_neg c1).trans ((if_neg c2).trans rfl))))]
        exact rx_ri rfl
theorem rc_X8_words (hP : WOK b w H0) {s : Sg} {a1 : Int32} {a2 : Int32} : Rc sc 2 131 [.ref (b + 11), .int a1, .int a2] (wd b w wl H0 s, kn) (some (.int (D_X8_words s a1 a2))) (wd b w wl H0 s, kn) := rx_mc (m_X8_words hP) rfl rfl (Nat.ble_eq_true_of_le (Nat.le_refl _)) (Nat.ble_eq_true_of_le (Nat.le_refl _))
-- LinkHarbour$Layout.append
def fr_X3_append_48 (b w : Nat) (q : Nat) (a1 : Int32) (x2 : Int32) : EF := (48, [(0, .ref (b + (q + 15))), (1, .int a1), (2, .int x2)], [])
def fe_X3_append_48 (b w : Nat) (q : Nat) (a1 : Int32) (x2 : Int32) : EF := (80, [], [])
noncomputable def B_X3_append_48 (q : Nat) (a1 : Int32) (x2 : Int32) (s : Sg) : Bool × (Int32 × Sg) := (if 8 ≤ x2 then (false, (x2, s)) else (true, ((x2 + 1), (up s (q + 20) ((a1 * 8) + x2).toNatClampNeg (D_X8_words s a1 x2)))))
theorem b_X3_append_48 (hP : WOK b w H0) {q : Nat} (hq : q = 38 ∨ q = 60) {s : Sg} {a1 : Int32} {x2 : Int32} (h1 : rg a1 24) (o : Option Value) (h' : EH) (hN : NN s) (hv : 0 ≤ x2.toInt) (hc : ∀ (t2 : Int32) (ts : Sg), (B_X3_append_48 q a1 x2 s) = (true, (t2, ts)) → x2.toInt < 2147483647 → t2 = x2 + 1 → Rx sc g_X3_append 2 (fr_X3_append_48 b w q a1 t2) (wd b w wl H0 ts, kn) o h') (he : ∀ (t2 : Int32) (ts : Sg), (B_X3_append_48 q a1 x2 s) = (false, (t2, ts)) → Rx sc g_X3_append 2 (fe_X3_append_48 b w q a1 t2) (wd b w wl H0 ts, kn) o h') : Rx sc g_X3_append 2 (fr_X3_append_48 b w q a1 x2) (wd b w wl H0 s, kn) o h' := by
  show Rx sc g_X3_append 2 (48, [(0, .ref (b + (q + 15))), (1, .int a1), (2, .int x2)], []) (wd b w wl H0 s, kn) o h'
  refine rx_k 2 (51, [(0, .ref (b + (q + 15))), (1, .int a1), (2, .int x2)], [.int 8, .int x2]) (fun _ _ => rfl) ?_
  by_cases c0 : 8 ≤ x2
  · refine rx_icT rfl (bt c0) ?_
    exact rx_lo am_X3_append (lo := []) (fun _ h => absurd h List.not_mem_nil) rfl (he _ _ (show (B_X3_append_48 q a1 x2 s) = (false, (x2, s)) from ((if_pos c0).trans rfl)))
  · refine rx_icF rfl (bf c0) rfl ?_
    refine rx_k 1 (55, [(0, .ref (b + (q + 15))), (1, .int a1), (2, .int x2)], [.ref (b + (q + 15))]) (fun _ _ => rfl) ?_
    refine rx_getf rfl rfl (wl_15 hP hq) rfl ?_
    refine rx_k 6 (65, [(0, .ref (b + (q + 15))), (1, .int a1), (2, .int x2)], [.ref (b + (q + 15)), .int ((a1 * 8) + x2), .ref (b + (q + 20))]) (fun _ _ => rfl) ?_
    refine rx_getf rfl rfl (wl_15 hP hq) rfl ?_
    refine rx_k 2 (70, [(0, .ref (b + (q + 15))), (1, .int a1), (2, .int x2)], [.int x2, .int a1, .ref (b + 11), .int ((a1 * 8) + x2), .ref (b + (q + 20))]) (fun _ _ => rfl) ?_
    refine rx_inv rfl rfl (rc_X8_words hP) rfl rfl rfl (q_recv (wg_11 hP)) rfl rfl ?_
    refine rx_ist rfl rfl (wl_20 hP hq) rfl (ar_at (i_mul_add 8 8 rfl h1 (rg_c hv c0 (m := 8) (n := 8) rfl) (by decide) (by decide))) (wz_20 hP hq (i_mul_add 8 8 rfl h1 (rg_c hv c0 (m := 8) (n := 8) rfl) (by decide) (by decide))) ?_
    refine rx_k 2 (48, [(2, .int (x2 + 1)), (0, .ref (b + (q + 15))), (1, .int a1)], []) (fun _ _ => rfl) ?_
    refine rx_lo am_X3_append (lo := [(0, .ref (b + (q + 15))), (1, .int a1), (2, .int (x2 + 1))]) (List.forall_mem_cons.mpr ⟨List.mem_of_getElem? (i := 1) rfl, (List.forall_mem_cons.mpr ⟨List.mem_of_getElem? (i := 2) rfl, (List.forall_mem_cons.mpr ⟨List.mem_of_getElem? (i := 0) rfl, (fun _ h => absurd h List.not_mem_nil)⟩)⟩)⟩) rfl (hc _ _ (show (B_X3_append_48 q a1 x2 s) = (true, ((x2 + 1), (up s (q + 20) ((a1 * 8) + x2).toNatClampNeg (D_X8_words s a1 x2)))) from ((if_neg c0).trans rfl)) (lt_nle c0) rfl)
theorem nb_X3_append_48 {q : Nat} (hq : q = 38 ∨ q = 60) {a1 : Int32} {x2 : Int32} {s : Sg} (hN : NN s) : ∃ (f : Bool) (t2 : Int32) (ts : Sg), (B_X3_append_48 q a1 x2 s) = (f, (t2, ts)) ∧ NN ts := by
  by_cases c0 : 8 ≤ x2
  · exact ⟨_, _, _, (show (B_X3_append_48 q a1 x2 s) = (false, (x2, s)) from ((if_pos c0).trans rfl)), hN⟩
  · exact ⟨_, _, _, (show (B_X3_append_48 q a1 x2 s) = (true, ((x2 + 1), (up s (q + 20) ((a1 * 8) + x2).toNatClampNeg (D_X8_words s a1 x2)))) from ((if_neg c0).trans rfl)), (nn_0 (by rcases hq with rfl | rfl <;> rfl) hN)⟩
noncomputable def R_X3_append_80 (q : Nat) (s : Sg) : Sg := s
theorem r_X3_append_80 (hP : WOK b w H0) {q : Nat} (hq : q = 38 ∨ q = 60) {s : Sg} (hN : NN s) : Rx sc g_X3_append 2 ((80, [], [])) (wd b w wl H0 s, kn) none (wd b w wl H0 (R_X3_append_80 q s), kn) := by
  show Rx sc g_X3_append 2 (80, [], []) (wd b w wl H0 s, kn) none (wd b w wl H0 (R_X3_append_80 q s), kn)
  rw [(show (R_X3_append_80 q s) = s from rfl)]
  exact rx_rv rfl
theorem nr_X3_append_80 {q : Nat} (hq : q = 38 ∨ q = 60) {s : Sg} (hN : NN s) : NN ((R_X3_append_80 q s)) := by
  rw [show (R_X3_append_80 q s) = s from rfl]
  exact hN
noncomputable def D_X3_append (q : Nat) (s : Sg) (a1 : Int32) : Sg := (if 24 ≤ (s (q + 15) 5) then s else (if (D_X11_isIn a1 24) = 0 then s else (R_X3_append_80 q ((itr (uc2 (B_X3_append_48 q a1)) BIG (0, (up (up (up s (q + 16) (s (q + 15) 5).toNatClampNeg a1) (q + 15) 5 ((s (q + 15) 5) + 1)) (q + 19) a1.toNatClampNeg 0))).2))))
theorem m_X3_append (hP : WOK b w H0) {q : Nat} (hq : q = 38 ∨ q = 60) {s : Sg} {a1 : Int32} (hN : NN s) : Rx sc g_X3_append 2 ((0, [(0, .ref (b + (q + 15))), (1, .int a1)], [])) (wd b w wl H0 s, kn) none (wd b w wl H0 (D_X3_append q s a1), kn) := by
  show Rx sc g_X3_append 2 (0, [(0, .ref (b + (q + 15))), (1, .int a1)], []) (wd b w wl H0 s, kn) none (wd b w wl H0 (D_X3_append q s a1), kn)
  refine rx_k 1 (1, [(0, .ref (b + (q + 15))), (1, .int a1)], [.ref (b + (q + 15))]) (fun _ _ => rfl) ?_
  refine rx_getf rfl rfl (wl_15 hP hq) rfl ?_
  refine rx_k 1 (6, [(0, .ref (b + (q + 15))), (1, .int a1)], [.int 24, .int (s (q + 15) 5)]) (fun _ _ => rfl) ?_
  by_cases c0 : 24 ≤ (s (q + 15) 5)
  · refine rx_icT rfl (bt c0) ?_
    rw [(show (D_X3_append q s a1) = s from ((if_pos c0).trans rfl))]
    exact rx_rv rfl
  · refine rx_icF rfl (bf c0) rfl ?_
    refine rx_k 2 (12, [(0, .ref (b + (q + 15))), (1, .int a1)], [.int 24, .int a1]) (fun _ _ => rfl) ?_
    refine rx_inv rfl rfl (rc_X11_isIn) rfl rfl rfl rfl rfl rfl ?_
    by_cases c1 : (D_X11_isIn a1 24) = 0
    · refine rx_ifF rfl (nf c1) rfl ?_
      rw [(show (D_X3_append q s a1) = s from ((if_neg c0).trans ((if_pos c1).trans rfl)))]
      exact rx_rv rfl
    · refine rx_ifT rfl (nt c1) ?_
      refine rx_k 1 (20, [(0, .ref (b + (q + 15))), (1, .int a1)], [.ref (b + (q + 15))]) (fun _ _ => rfl) ?_
      refine rx_getf rfl rfl (wl_15 hP hq) rfl ?_
      refine rx_k 1 (24, [(0, .ref (b + (q + 15))), (1, .int a1)], [.ref (b + (q + 15)), .ref (b + (q + 16))]) (fun _ _ => rfl) ?_
      refine rx_getf rfl rfl (wl_15 hP hq) rfl ?_
      refine rx_k 1 (28, [(0, .ref (b + (q + 15))), (1, .int a1)], [.int a1, .int (s (q + 15) 5), .ref (b + (q + 16))]) (fun _ _ => rfl) ?_
      refine rx_ist rfl rfl (wl_16 hP hq) rfl (ar_at (rg_c (hN (q + 15) 5 (by first | rfl | (rcases hq with rfl | rfl <;> rfl))) c0 (m := 24) (n := 24) rfl)) (wz_16 hP hq (rg_c (hN (q + 15) 5 (by first | rfl | (rcases hq with rfl | rfl <;> rfl))) c0 (m := 24) (n := 24) rfl)) ?_
      refine rx_k 2 (31, [(0, .ref (b + (q + 15))), (1, .int a1)], [.ref (b + (q + 15)), .ref (b + (q + 15))]) (fun _ _ => rfl) ?_
      refine rx_getf (v := .int (s (q + 15) 5)) rfl rfl (wl_15 hP hq) (congrArg (fun z => some (Value.int z)) (rd_nk (by omega))) ?_
      refine rx_k 2 (36, [(0, .ref (b + (q + 15))), (1, .int a1)], [.int ((s (q + 15) 5) + 1), .ref (b + (q + 15))]) (fun _ _ => rfl) ?_
      refine rx_putf rfl rfl (wl_15 hP hq) rfl (wz_15_5 hP hq) ?_
      refine rx_k 1 (40, [(0, .ref (b + (q + 15))), (1, .int a1)], [.ref (b + (q + 15))]) (fun _ _ => rfl) ?_
      refine rx_getf rfl rfl (wl_15 hP hq) rfl ?_
      refine rx_k 2 (45, [(0, .ref (b + (q + 15))), (1, .int a1)], [.int 0, .int a1, .ref (b + (q + 19))]) (fun _ _ => rfl) ?_
      refine rx_ist rfl rfl (wl_19 hP hq) rfl (ar_at (rg_isIn c1 (m := 24) (n := 24) rfl)) (wz_19 hP hq (rg_isIn c1 (m := 24) (n := 24) rfl)) ?_
      refine rx_k 2 (48, [(2, .int 0), (0, .ref (b + (q + 15))), (1, .int a1)], []) (fun _ _ => rfl) ?_
      refine rx_lo am_X3_append (lo := [(0, .ref (b + (q + 15))), (1, .int a1), (2, .int 0)]) (List.forall_mem_cons.mpr ⟨List.mem_of_getElem? (i := 1) rfl, (List.forall_mem_cons.mpr ⟨List.mem_of_getElem? (i := 2) rfl, (List.forall_mem_cons.mpr ⟨List.mem_of_getElem? (i := 0) rfl, (fun _ h => absurd h List.not_mem_nil)⟩)⟩)⟩) rfl ?_
      refine rx_loop2s (B := B_X3_append_48 q a1) (fr := (fr_X3_append_48 b w q a1)) (E := (fe_X3_append_48 b w q a1)) (I := fun z2 zs => NN zs) (fun z2 zs oo hh9 hI9 hv9 hc9 he9 => b_X3_append_48 hP hq (rg_isIn c1 (m := 24) (n := 24) rfl) oo hh9 hI9 hv9 hc9 he9) (fun z2 zs hz => nb_X3_append_48 hq hz) BIG 0 (up (up (up s (q + 16) (s (q + 15) 5).toNatClampNeg a1) (q + 15) 5 ((s (q + 15) 5) + 1)) (q + 19) a1.toNatClampNeg 0) _ _ (nn_0 (by rcases hq with rfl | rfl <;> rfl) (nn_c (nn_inc (rg_c (hN (q + 15) 5 (by first | rfl | (rcases hq with rfl | rfl <;> rfl))) c0 (m := 24) (n := 24) rfl).1 (lt_nle c0) (by decide)) (nn_0 (by rcases hq with rfl | rfl <;> rfl) hN))) (by decide : (0 : Int) ≤ (0 : Int32).toInt) (le_enough (by decide : (0 : Int) ≤ (0 : Int32).toInt)) ?_
      rw [(show (D_X3_append q s a1) = (R_X3_append_80 q ((itr (uc2 (B_X3_append_48 q a1)) BIG (0, (up (up (up s (q + 16) (s (q + 15) 5).toNatClampNeg a1) (q + 15) 5 ((s (q + 15) 5) + 1)) (q + 19) a1.toNatClampNeg 0))).2)) from ((if_neg c0).trans ((if_neg c1).trans rfl)))]
      exact r_X3_append_80 hP hq (itr_inv2 (B := B_X3_append_48 q a1) (I := fun z2 zs => NN zs) (fun z2 zs hz => nb_X3_append_48 hq hz) BIG 0 (up (up (up s (q + 16) (s (q + 15) 5).toNatClampNeg a1) (q + 15) 5 ((s (q + 15) 5) + 1)) (q + 19) a1.toNatClampNeg 0) (nn_0 (by rcases hq with rfl | rfl <;> rfl) (nn_c (nn_inc (rg_c (hN (q + 15) 5 (by first | rfl | (rcases hq with rfl | rfl <;> rfl))) c0 (m := 24) (n := 24) rfl).1 (lt_nle c0) (by decide)) (nn_0 (by rcases hq with rfl | rfl <;> rfl) hN))))
theorem rc_X3_append (hP : WOK b w H0) {q : Nat} (hq : q = 38 ∨ q = 60) {s : Sg} {a1 : Int32} (hN : NN s) : Rc sc 3 33 [.ref (b + (q + 15)), .int a1] (wd b w wl H0 s, kn) none (wd b w wl H0 (D_X3_append q s a1), kn) := rx_mc (m_X3_append hP hq hN) rfl rfl (Nat.ble_eq_true_of_le (Nat.le_refl _)) (Nat.ble_eq_true_of_le (Nat.le_refl _))
theorem nn_X3_append {q : Nat} (hq : q = 38 ∨ q = 60) {s : Sg} {a1 : Int32} (hN : NN s) : NN (D_X3_append q s a1) := by
  by_cases c0 : 24 ≤ (s (q + 15) 5)
  · rw [show (D_X3_append q s a1) = s from ((if_pos c0).trans rfl)]
    exact hN
  · by_cases c1 : (D_X11_isIn a1 24) = 0
    · rw [show (D_X3_append q s a1) = s from ((if_neg c0).trans ((if_pos c1).trans rfl))]
      exact hN
    · rw [show (D_X3_append q s a1) = (R_X3_append_80 q ((itr (uc2 (B_X3_append_48 q a1)) BIG (0, (up (up (up s (q + 16) (s (q + 15) 5).toNatClampNeg a1) (q + 15) 5 ((s (q + 15) 5) + 1)) (q + 19) a1.toNatClampNeg 0))).2)) from ((if_neg c0).trans ((if_neg c1).trans rfl))]
      exact (nr_X3_append_80 hq (itr_inv2 (B := B_X3_append_48 q a1) (I := fun z2 zs => NN zs) (fun z2 zs hz => nb_X3_append_48 hq hz) BIG 0 (up (up (up s (q + 16) (s (q + 15) 5).toNatClampNeg a1) (q + 15) 5 ((s (q + 15) 5) + 1)) (q + 19) a1.toNatClampNeg 0) (nn_0 (by rcases hq with rfl | rfl <;> rfl) (nn_c (nn_inc (rg_c (hN (q + 15) 5 (by first | rfl | (rcases hq with rfl | rfl <;> rfl))) c0 (m := 24) (n := 24) rfl).1 (lt_nle c0) (by decide)) (nn_0 (by rcases hq with rfl | rfl <;> rfl) hN)))))
theorem fwb_X3_append_48 {q : Nat} {a1 : Int32} {x2 : Int32} {s : Sg} {k j : Nat} (l15f5 : k ≠ q + 15 ∨ j ≠ 5) (l16 : k ≠ q + 16) (l19 : k ≠ q + 19) (l20 : k ≠ q + 20) : ∃ (f : Bool) (t2 : Int32) (ts : Sg), (B_X3_append_48 q a1 x2 s) = (f, (t2, ts)) ∧ ts k j = s k j := by
  by_cases c0 : 8 ≤ x2
  · exact ⟨_, _, _, (show (B_X3_append_48 q a1 x2 s) = (false, (x2, s)) from ((if_pos c0).trans rfl)), rfl⟩
  · exact ⟨_, _, _, (show (B_X3_append_48 q a1 x2 s) = (true, ((x2 + 1), (up s (q + 20) ((a1 * 8) + x2).toNatClampNeg (D_X8_words s a1 x2)))) from ((if_neg c0).trans rfl)), ((up_a l20).trans rfl)⟩
theorem fwr_X3_append_80 {q : Nat} {s : Sg} {k j : Nat} (l15f5 : k ≠ q + 15 ∨ j ≠ 5) (l16 : k ≠ q + 16) (l19 : k ≠ q + 19) (l20 : k ≠ q + 20) : (R_X3_append_80 q s) k j = s k j := by
  rw [show (R_X3_append_80 q s) = s from rfl]
  first | done | exact rfl
theorem fw_X3_append {q : Nat} {s : Sg} {a1 : Int32} {k j : Nat} (l15f5 : k ≠ q + 15 ∨ j ≠ 5) (l16 : k ≠ q + 16) (l19 : k ≠ q + 19) (l20 : k ≠ q + 20) : (D_X3_append q s a1) k j = s k j := by
  by_cases c0 : 24 ≤ (s (q + 15) 5)
  · rw [show (D_X3_append q s a1) = s from ((if_pos c0).trans rfl)]
    first | done | exact rfl
  · by_cases c1 : (D_X11_isIn a1 24) = 0
    · rw [show (D_X3_append q s a1) = s from ((if_neg c0).trans ((if_pos c1).trans rfl))]
      first | done | exact rfl
    · rw [show (D_X3_append q s a1) = (R_X3_append_80 q ((itr (uc2 (B_X3_append_48 q a1)) BIG (0, (up (up (up s (q + 16) (s (q + 15) 5).toNatClampNeg a1) (q + 15) 5 ((s (q + 15) 5) + 1)) (q + 19) a1.toNatClampNeg 0))).2)) from ((if_neg c0).trans ((if_neg c1).trans rfl))]
      first | done | exact ((fwr_X3_append_80 l15f5 l16 l19 l20).trans ((itr_inv2 (B := B_X3_append_48 q a1) (I := fun z2 zs => zs k j = (up (up (up s (q + 16) (s (q + 15) 5).toNatClampNeg a1) (q + 15) 5 ((s (q + 15) 5) + 1)) (q + 19) a1.toNatClampNeg 0) k j) (fun z2 zs hz => exq2 (fwb_X3_append_48 l15f5 l16 l19 l20) hz) BIG 0 (up (up (up s (q + 16) (s (q + 15) 5).toNatClampNeg a1) (q + 15) 5 ((s (q + 15) 5) + 1)) (q + 19) a1.toNatClampNeg 0) rfl).trans ((up_a l19).trans ((up_f l15f5).trans ((up_a l16).trans rfl)))))
-- LinkHarbour$Layout.orderSections
def fr_X3_orderSections_7 (b w : Nat) (q : Nat) (x1 : Int32) : EF := (7, [(0, .ref (b + (q + 15))), (1, .int x1)], [])
def fe_X3_orderSections_7 (b w : Nat) (q : Nat) (x1 : Int32) : EF := (80, [], [])
def fr_X3_orderSections_29 (b w : Nat) (q : Nat) (a1 : Int32) (a2 : Int32) (x3 : Int32) : EF := (29, [(0, .ref (b + (q + 15))), (1, .int a1), (2, .int a2), (3, .int x3)], [])
def fe_X3_orderSections_29 (b w : Nat) (q : Nat) (a1 : Int32) (a2 : Int32) (x3 : Int32) : EF := (74, [(0, .ref (b + (q + 15))), (1, .int a1)], [])
noncomputable def B_X3_orderSections_29 (q : Nat) (a1 : Int32) (a2 : Int32) (x3 : Int32) (s : Sg) : Bool × (Int32 × Sg) := (if (D_X8_count s) ≤ x3 then (false, (x3, s)) else (if (D_X7_hasSection q s x3) = 0 then (true, ((x3 + 1), s)) else (if (D_X8_objectOf s x3) = a2 then (true, ((x3 + 1), (D_X3_append q s x3))) else (true, ((x3 + 1), s)))))
theorem b_X3_orderSections_29 (hP : WOK b w H0) {q : Nat} (hq : q = 38 ∨ q = 60) {s : Sg} {a1 : Int32} {a2 : Int32} {x3 : Int32} (o : Option Value) (h' : EH) (hN : NN s) (hv : 0 ≤ x3.toInt) (hc : ∀ (t3 : Int32) (ts : Sg), (B_X3_orderSections_29 q a1 a2 x3 s) = (true, (t3, ts)) → x3.toInt < 2147483647 → t3 = x3 + 1 → Rx sc g_X3_orderSections 3 (fr_X3_orderSections_29 b w q a1 a2 t3) (wd b w wl H0 ts, kn) o h') (he : ∀ (t3 : Int32) (ts : Sg), (B_X3_orderSections_29 q a1 a2 x3 s) = (false, (t3, ts)) → Rx sc g_X3_orderSections 3 (fe_X3_orderSections_29 b w q a1 a2 t3) (wd b w wl H0 ts, kn) o h') : Rx sc g_X3_orderSections 3 (fr_X3_orderSections_29 b w q a1 a2 x3) (wd b w wl H0 s, kn) o h' := by
  show Rx sc g_X3_orderSections 3 (29, [(0, .ref (b + (q + 15))), (1, .int a1), (2, .int a2), (3, .int x3)], []) (wd b w wl H0 s, kn) o h'
  refine rx_k 2 (31, [(0, .ref (b + (q + 15))), (1, .int a1), (2, .int a2), (3, .int x3)], [.ref (b + (q + 15)), .int x3]) (fun _ _ => rfl) ?_
  refine rx_getf rfl rfl (wl_15 hP hq) rfl ?_
  refine rx_inv rfl rfl (rc_X8_count hP) rfl rfl rfl (q_recv (wg_11 hP)) rfl rfl ?_
  by_cases c0 : (D_X8_count s) ≤ x3
  · refine rx_icT rfl (bt c0) ?_
    exact rx_lo am_X3_orderSections (lo := [(0, .ref (b + (q + 15))), (1, .int a1)]) (List.forall_mem_cons.mpr ⟨List.mem_of_getElem? (i := 0) rfl, (List.forall_mem_cons.mpr ⟨List.mem_of_getElem? (i := 1) rfl, (fun _ h => absurd h List.not_mem_nil)⟩)⟩) rfl (he _ _ (show (B_X3_orderSections_29 q a1 a2 x3 s) = (false, (x3, s)) from ((if_pos c0).trans rfl)))
  · refine rx_icF rfl (bf c0) rfl ?_
    refine rx_k 1 (41, [(0, .ref (b + (q + 15))), (1, .int a1), (2, .int a2), (3, .int x3)], [.ref (b + (q + 15))]) (fun _ _ => rfl) ?_
    refine rx_getf rfl rfl (wl_15 hP hq) rfl ?_
    refine rx_k 1 (45, [(0, .ref (b + (q + 15))), (1, .int a1), (2, .int a2), (3, .int x3)], [.int x3, .ref (b + (q + 12))]) (fun _ _ => rfl) ?_
    refine rx_inv rfl rfl (rc_X7_hasSection hP hq) rfl rfl rfl (q_recv (wl_12 hP hq)) rfl rfl ?_
    by_cases c1 : (D_X7_hasSection q s x3) = 0
    · refine rx_ifT rfl (bt c1) ?_
      refine rx_k 2 (29, [(3, .int (x3 + 1)), (0, .ref (b + (q + 15))), (1, .int a1), (2, .int a2)], []) (fun _ _ => rfl) ?_
      refine rx_lo am_X3_orderSections (lo := [(0, .ref (b + (q + 15))), (1, .int a1), (2, .int a2), (3, .int (x3 + 1))]) (List.forall_mem_cons.mpr ⟨List.mem_of_getElem? (i := 1) rfl, (List.forall_mem_cons.mpr ⟨List.mem_of_getElem? (i := 2) rfl, (List.forall_mem_cons.mpr ⟨List.mem_of_getElem? (i := 3) rfl, (List.forall_mem_cons.mpr ⟨List.mem_of_getElem? (i := 0) rfl, (fun _ h => absurd h List.not_mem_nil)⟩)⟩)⟩)⟩) rfl (hc _ _ (show (B_X3_orderSections_29 q a1 a2 x3 s) = (true, ((x3 + 1), s)) from ((if_neg c0).trans ((if_pos c1).trans rfl))) (lt_nle c0) rfl)
    · refine rx_ifF rfl (bf c1) rfl ?_
      refine rx_k 1 (52, [(0, .ref (b + (q + 15))), (1, .int a1), (2, .int a2), (3, .int x3)], [.ref (b + (q + 15))]) (fun _ _ => rfl) ?_
      refine rx_getf rfl rfl (wl_15 hP hq) rfl ?_
      refine rx_k 1 (56, [(0, .ref (b + (q + 15))), (1, .int a1), (2, .int a2), (3, .int x3)], [.int x3, .ref (b + 11)]) (fun _ _ => rfl) ?_
      refine rx_inv rfl rfl (rc_X8_objectOf hP) rfl rfl rfl (q_recv (wg_11 hP)) rfl rfl ?_
      refine rx_k 1 (60, [(0, .ref (b + (q + 15))), (1, .int a1), (2, .int a2), (3, .int x3)], [.int a2, .int (D_X8_objectOf s x3)]) (fun _ _ => rfl) ?_
      by_cases c2 : (D_X8_objectOf s x3) = a2
      · refine rx_icF rfl (nf c2) rfl ?_
        refine rx_k 2 (65, [(0, .ref (b + (q + 15))), (1, .int a1), (2, .int a2), (3, .int x3)], [.int x3, .ref (b + (q + 15))]) (fun _ _ => rfl) ?_
        refine rx_inv rfl rfl (rc_X3_append hP hq hN) rfl rfl rfl (q_recv (wl_15 hP hq)) rfl rfl ?_
        refine rx_k 2 (29, [(3, .int (x3 + 1)), (0, .ref (b + (q + 15))), (1, .int a1), (2, .int a2)], []) (fun _ _ => rfl) ?_
        refine rx_lo am_X3_orderSections (lo := [(0, .ref (b + (q + 15))), (1, .int a1), (2, .int a2), (3, .int (x3 + 1))]) (List.forall_mem_cons.mpr ⟨List.mem_of_getElem? (i := 1) rfl, (List.forall_mem_cons.mpr ⟨List.mem_of_getElem? (i := 2) rfl, (List.forall_mem_cons.mpr ⟨List.mem_of_getElem? (i := 3) rfl, (List.forall_mem_cons.mpr ⟨List.mem_of_getElem? (i := 0) rfl, (fun _ h => absurd h List.not_mem_nil)⟩)⟩)⟩)⟩) rfl (hc _ _ (show (B_X3_orderSections_29 q a1 a2 x3 s) = (true, ((x3 + 1), (D_X3_append q s x3))) from ((if_neg c0).trans ((if_neg c1).trans ((if_pos c2).trans rfl)))) (lt_nle c0) rfl)
      · refine rx_icT rfl (nt c2) ?_
        refine rx_k 2 (29, [(3, .int (x3 + 1)), (0, .ref (b + (q + 15))), (1, .int a1), (2, .int a2)], []) (fun _ _ => rfl) ?_
        refine rx_lo am_X3_orderSections (lo := [(0, .ref (b + (q + 15))), (1, .int a1), (2, .int a2), (3, .int (x3 + 1))]) (List.forall_mem_cons.mpr ⟨List.mem_of_getElem? (i := 1) rfl, (List.forall_mem_cons.mpr ⟨List.mem_of_getElem? (i := 2) rfl, (List.forall_mem_cons.mpr ⟨List.mem_of_getElem? (i := 3) rfl, (List.forall_mem_cons.mpr ⟨List.mem_of_getElem? (i := 0) rfl, (fun _ h => absurd h List.not_mem_nil)⟩)⟩)⟩)⟩) rfl (hc _ _ (show (B_X3_orderSections_29 q a1 a2 x3 s) = (true, ((x3 + 1), s)) from ((if_neg c0).trans ((if_neg c1).trans ((if_neg c2).trans rfl)))) (lt_nle c0) rfl)
theorem nb_X3_orderSections_29 {q : Nat} (hq : q = 38 ∨ q = 60) {a1 : Int32} {a2 : Int32} {x3 : Int32} {s : Sg} (hN : NN s) : ∃ (f : Bool) (t3 : Int32) (ts : Sg), (B_X3_orderSections_29 q a1 a2 x3 s) = (f, (t3, ts)) ∧ NN ts := by
  by_cases c0 : (D_X8_count s) ≤ x3
  · exact ⟨_, _, _, (show (B_X3_orderSections_29 q a1 a2 x3 s) = (false, (x3, s)) from ((if_pos c0).trans rfl)), hN⟩
  · by_cases c1 : (D_X7_hasSection q s x3) = 0
    · exact ⟨_, _, _, (show (B_X3_orderSections_29 q a1 a2 x3 s) = (true, ((x3 + 1), s)) from ((if_neg c0).trans ((if_pos c1).trans rfl))), hN⟩
    · by_cases c2 : (D_X8_objectOf s x3) = a2
      · exact ⟨_, _, _, (show (B_X3_orderSections_29 q a1 a2 x3 s) = (true, ((x3 + 1), (D_X3_append q s x3))) from ((if_neg c0).trans ((if_neg c1).trans ((if_pos c2).trans rfl)))), (nn_X3_append hq hN)⟩
      · exact ⟨_, _, _, (show (B_X3_orderSections_29 q a1 a2 x3 s) = (true, ((x3 + 1), s)) from ((if_neg c0).trans ((if_neg c1).trans ((if_neg c2).trans rfl)))), hN⟩
noncomputable def R_X3_orderSections_74 (q : Nat) (s : Sg) (a1 : Int32) : Bool × (Int32 × Sg) := (true, ((a1 + 1), s))
theorem r_X3_orderSections_74 (hP : WOK b w H0) {q : Nat} (hq : q = 38 ∨ q = 60) {s : Sg} {a1 : Int32} (o : Option Value) (h' : EH) (hN : NN s) (hv : 0 ≤ (a1).toInt) (hlt : (a1).toInt < 2147483647) (hc : ∀ (t1 : Int32) (ts : Sg), (R_X3_orderSections_74 q s a1) = (true, (t1, ts)) → a1.toInt < 2147483647 → t1 = a1 + 1 → Rx sc g_X3_orderSections 3 (fr_X3_orderSections_7 b w q t1) (wd b w wl H0 ts, kn) o h') (he : ∀ (t1 : Int32) (ts : Sg), (R_X3_orderSections_74 q s a1) = (false, (t1, ts)) → Rx sc g_X3_orderSections 3 (fe_X3_orderSections_7 b w q t1) (wd b w wl H0 ts, kn) o h') : Rx sc g_X3_orderSections 3 ((74, [(0, .ref (b + (q + 15))), (1, .int a1)], [])) (wd b w wl H0 s, kn) o h' := by
  show Rx sc g_X3_orderSections 3 (74, [(0, .ref (b + (q + 15))), (1, .int a1)], []) (wd b w wl H0 s, kn) o h'
  refine rx_k 2 (7, [(1, .int (a1 + 1)), (0, .ref (b + (q + 15)))], []) (fun _ _ => rfl) ?_
  refine rx_lo am_X3_orderSections (lo := [(0, .ref (b + (q + 15))), (1, .int (a1 + 1))]) (List.forall_mem_cons.mpr ⟨List.mem_of_getElem? (i := 1) rfl, (List.forall_mem_cons.mpr ⟨List.mem_of_getElem? (i := 0) rfl, (fun _ h => absurd h List.not_mem_nil)⟩)⟩) rfl (hc _ _ (show (R_X3_orderSections_74 q s a1) = (true, ((a1 + 1), s)) from rfl) hlt rfl)
theorem nr_X3_orderSections_74 {q : Nat} (hq : q = 38 ∨ q = 60) {s : Sg} {a1 : Int32} (hN : NN s) : ∃ (f : Bool) (t1 : Int32) (ts : Sg), (R_X3_orderSections_74 q s a1) = (f, (t1, ts)) ∧ NN ts := by
  exact ⟨_, _, _, (show (R_X3_orderSections_74 q s a1) = (true, ((a1 + 1), s)) from rfl), hN⟩
noncomputable def B_X3_orderSections_7 (q : Nat) (x1 : Int32) (s : Sg) : Bool × (Int32 × Sg) := (if (D_X10_count q s) ≤ x1 then (false, (x1, s)) else (R_X3_orderSections_74 q ((itr (uc2 (B_X3_orderSections_29 q x1 (D_X10_objectAt q s x1))) BIG (0, s)).2) x1))
theorem b_X3_orderSections_7 (hP : WOK b w H0) {q : Nat} (hq : q = 38 ∨ q = 60) {s : Sg} {x1 : Int32} (o : Option Value) (h' : EH) (hN : NN s) (hv : 0 ≤ x1.toInt) (hc : ∀ (t1 : Int32) (ts : Sg), (B_X3_orderSections_7 q x1 s) = (true, (t1, ts)) → x1.toInt < 2147483647 → t1 = x1 + 1 → Rx sc g_X3_orderSections 3 (fr_X3_orderSections_7 b w q t1) (wd b w wl H0 ts, kn) o h') (he : ∀ (t1 : Int32) (ts : Sg), (B_X3_orderSections_7 q x1 s) = (false, (t1, ts)) → Rx sc g_X3_orderSections 3 (fe_X3_orderSections_7 b w q t1) (wd b w wl H0 ts, kn) o h') : Rx sc g_X3_orderSections 3 (fr_X3_orderSections_7 b w q x1) (wd b w wl H0 s, kn) o h' := by
  show Rx sc g_X3_orderSections 3 (7, [(0, .ref (b + (q + 15))), (1, .int x1)], []) (wd b w wl H0 s, kn) o h'
  refine rx_k 2 (9, [(0, .ref (b + (q + 15))), (1, .int x1)], [.ref (b + (q + 15)), .int x1]) (fun _ _ => rfl) ?_
  refine rx_getf rfl rfl (wl_15 hP hq) rfl ?_
  refine rx_inv rfl rfl (rc_X10_count hP hq) rfl rfl rfl (q_recv (wl_3 hP hq)) rfl rfl ?_
  by_cases c0 : (D_X10_count q s) ≤ x1
  · refine rx_icT rfl (bt c0) ?_
    exact rx_lo am_X3_orderSections (lo := []) (fun _ h => absurd h List.not_mem_nil) rfl (he _ _ (show (B_X3_orderSections_7 q x1 s) = (false, (x1, s)) from ((if_pos c0).trans rfl)))
  · refine rx_icF rfl (bf c0) rfl ?_
    refine rx_k 1 (19, [(0, .ref (b + (q + 15))), (1, .int x1)], [.ref (b + (q + 15))]) (fun _ _ => rfl) ?_
    refine rx_getf rfl rfl (wl_15 hP hq) rfl ?_
    refine rx_k 1 (23, [(0, .ref (b + (q + 15))), (1, .int x1)], [.int x1, .ref (b + (q + 3))]) (fun _ _ => rfl) ?_
    refine rx_inv rfl rfl (rc_X10_objectAt hP hq) rfl rfl rfl (q_recv (wl_3 hP hq)) rfl rfl ?_
    refine rx_k 3 (29, [(3, .int 0), (2, .int (D_X10_objectAt q s x1)), (0, .ref (b + (q + 15))), (1, .int x1)], []) (fun _ _ => rfl) ?_
    refine rx_lo am_X3_orderSections (lo := [(0, .ref (b + (q + 15))), (1, .int x1), (2, .int (D_X10_objectAt q s x1)), (3, .int 0)]) (List.forall_mem_cons.mpr ⟨List.mem_of_getElem? (i := 2) rfl, (List.forall_mem_cons.mpr ⟨List.mem_of_getElem? (i := 3) rfl, (List.forall_mem_cons.mpr ⟨List.mem_of_getElem? (i := 1) rfl, (List.forall_mem_cons.mpr ⟨List.mem_of_getElem? (i := 0) rfl, (fun _ h => absurd h List.not_mem_nil)⟩)⟩)⟩)⟩) rfl ?_
    refine rx_loop2s (B := B_X3_orderSections_29 q x1 (D_X10_objectAt q s x1)) (fr := (fr_X3_orderSections_29 b w q x1 (D_X10_objectAt q s x1))) (E := (fe_X3_orderSections_29 b w q x1 (D_X10_objectAt q s x1))) (I := fun z3 zs => NN zs) (fun z3 zs oo hh9 hI9 hv9 hc9 he9 => b_X3_orderSections_29 hP hq oo hh9 hI9 hv9 hc9 he9) (fun z3 zs hz => nb_X3_orderSections_29 hq hz) BIG 0 s _ _ hN (by decide : (0 : Int) ≤ (0 : Int32).toInt) (le_enough (by decide : (0 : Int) ≤ (0 : Int32).toInt)) ?_
    have e9 := (show (B_X3_orderSections_7 q x1 s) = (R_X3_orderSections_74 q ((itr (uc2 (B_X3_orderSections_29 q x1 (D_X10_objectAt q s x1))) BIG (0, s)).2) x1) from ((if_neg c0).trans rfl))
    exact r_X3_orderSections_74 hP hq o h' (itr_inv2 (B := B_X3_orderSections_29 q x1 (D_X10_objectAt q s x1)) (I := fun z3 zs => NN zs) (fun z3 zs hz => nb_X3_orderSections_29 hq hz) BIG 0 s hN) hv (lt_nle c0) (fun t1 ts e8 l8 v8 => hc t1 ts (e9.trans e8) l8 v8) (fun t1 ts e8 => he t1 ts (e9.trans e8))
theorem nb_X3_orderSections_7 {q : Nat} (hq : q = 38 ∨ q = 60) {x1 : Int32} {s : Sg} (hN : NN s) : ∃ (f : Bool) (t1 : Int32) (ts : Sg), (B_X3_orderSections_7 q x1 s) = (f, (t1, ts)) ∧ NN ts := by
  by_cases c0 : (D_X10_count q s) ≤ x1
  · exact ⟨_, _, _, (show (B_X3_orderSections_7 q x1 s) = (false, (x1, s)) from ((if_pos c0).trans rfl)), hN⟩
  · rw [show (B_X3_orderSections_7 q x1 s) = (R_X3_orderSections_74 q ((itr (uc2 (B_X3_orderSections_29 q x1 (D_X10_objectAt q s x1))) BIG (0, s)).2) x1) from ((if_neg c0).trans rfl)]
    exact (nr_X3_orderSections_74 hq (itr_inv2 (B := B_X3_orderSections_29 q x1 (D_X10_objectAt q s x1)) (I := fun z3 zs => NN zs) (fun z3 zs hz => nb_X3_orderSections_29 hq hz) BIG 0 s hN))
noncomputable def R_X3_orderSections_80 (q : Nat) (s : Sg) : Sg := s
theorem r_X3_orderSections_80 (hP : WOK b w H0) {q : Nat} (hq : q = 38 ∨ q = 60) {s : Sg} (hN : NN s) : Rx sc g_X3_orderSections 3 ((80, [], [])) (wd b w wl H0 s, kn) none (wd b w wl H0 (R_X3_orderSections_80 q s), kn) := by
  show Rx sc g_X3_orderSections 3 (80, [], []) (wd b w wl H0 s, kn) none (wd b w wl H0 (R_X3_orderSections_80 q s), kn)
  rw [(show (R_X3_orderSections_80 q s) = s from rfl)]
  exact rx_rv rfl
theorem nr_X3_orderSections_80 {q : Nat} (hq : q = 38 ∨ q = 60) {s : Sg} (hN : NN s) : NN ((R_X3_orderSections_80 q s)) := by
  rw [show (R_X3_orderSections_80 q s) = s from rfl]
  exact hN
noncomputable def D_X3_orderSections (q : Nat) (s : Sg) : Sg := (R_X3_orderSections_80 q ((itr (uc2 (B_X3_orderSections_7 q)) BIG (0, (up s (q + 15) 5 0))).2))
theorem m_X3_orderSections (hP : WOK b w H0) {q : Nat} (hq : q = 38 ∨ q = 60) {s : Sg} (hN : NN s) : Rx sc g_X3_orderSections 3 ((0, [(0, .ref (b + (q + 15)))], [])) (wd b w wl H0 s, kn) none (wd b w wl H0 (D_X3_orderSections q s), kn) := by
  show Rx sc g_X3_orderSections 3 (0, [(0, .ref (b + (q + 15)))], []) (wd b w wl H0 s, kn) none (wd b w wl H0 (D_X3_orderSections q s), kn)
  refine rx_k 2 (2, [(0, .ref (b + (q + 15)))], [.int 0, .ref (b + (q + 15))]) (fun _ _ => rfl) ?_
  refine rx_putf rfl rfl (wl_15 hP hq) rfl (wz_15_5 hP hq) ?_
  refine rx_k 2 (7, [(1, .int 0), (0, .ref (b + (q + 15)))], []) (fun _ _ => rfl) ?_
  refine rx_lo am_X3_orderSections (lo := [(0, .ref (b + (q + 15))), (1, .int 0)]) (List.forall_mem_cons.mpr ⟨List.mem_of_getElem? (i := 1) rfl, (List.forall_mem_cons.mpr ⟨List.mem_of_getElem? (i := 0) rfl, (fun _ h => absurd h List.not_mem_nil)⟩)⟩) rfl ?_
  refine rx_loop2s (B := B_X3_orderSections_7 q) (fr := (fr_X3_orderSections_7 b w q)) (E := (fe_X3_orderSections_7 b w q)) (I := fun z1 zs => NN zs) (fun z1 zs oo hh9 hI9 hv9 hc9 he9 => b_X3_orderSections_7 hP hq oo hh9 hI9 hv9 hc9 he9) (fun z1 zs hz => nb_X3_orderSections_7 hq hz) BIG 0 (up s (q + 15) 5 0) _ _ (nn_c (by decide) hN) (by decide : (0 : Int) ≤ (0 : Int32).toInt) (le_enough (by decide : (0 : Int) ≤ (0 : Int32).toInt)) ?_
  rw [(show (D_X3_orderSections q s) = (R_X3_orderSections_80 q ((itr (uc2 (B_X3_orderSections_7 q)) BIG (0, (up s (q + 15) 5 0))).2)) from rfl)]
  exact r_X3_orderSections_80 hP hq (itr_inv2 (B := B_X3_orderSections_7 q) (I := fun z1 zs => NN zs) (fun z1 zs hz => nb_X3_orderSections_7 hq hz) BIG 0 (up s (q + 15) 5 0) (nn_c (by decide) hN))
theorem rc_X3_orderSections (hP : WOK b w H0) {q : Nat} (hq : q = 38 ∨ q = 60) {s : Sg} (hN : NN s) : Rc sc 4 32 [.ref (b + (q + 15))] (wd b w wl H0 s, kn) none (wd b w wl H0 (D_X3_orderSections q s), kn) := rx_mc (m_X3_orderSections hP hq hN) rfl rfl (Nat.ble_eq_true_of_le (Nat.le_refl _)) (Nat.ble_eq_true_of_le (Nat.le_refl _))
theorem nn_X3_orderSections {q : Nat} (hq : q = 38 ∨ q = 60) {s : Sg} (hN : NN s) : NN (D_X3_orderSections q s) := by
  rw [show (D_X3_orderSections q s) = (R_X3_orderSections_80 q ((itr (uc2 (B_X3_orderSections_7 q)) BIG (0, (up s (q + 15) 5 0))).2)) from rfl]
  exact (nr_X3_orderSections_80 hq (itr_inv2 (B := B_X3_orderSections_7 q) (I := fun z1 zs => NN zs) (fun z1 zs hz => nb_X3_orderSections_7 hq hz) BIG 0 (up s (q + 15) 5 0) (nn_c (by decide) hN)))
theorem fwb_X3_orderSections_29 {q : Nat} {a1 : Int32} {a2 : Int32} {x3 : Int32} {s : Sg} {k j : Nat} (l15f5 : k ≠ q + 15 ∨ j ≠ 5) (l16 : k ≠ q + 16) (l19 : k ≠ q + 19) (l20 : k ≠ q + 20) : ∃ (f : Bool) (t3 : Int32) (ts : Sg), (B_X3_orderSections_29 q a1 a2 x3 s) = (f, (t3, ts)) ∧ ts k j = s k j := by
  by_cases c0 : (D_X8_count s) ≤ x3
  · exact ⟨_, _, _, (show (B_X3_orderSections_29 q a1 a2 x3 s) = (false, (x3, s)) from ((if_pos c0).trans rfl)), rfl⟩
  · by_cases c1 : (D_X7_hasSection q s x3) = 0
    · exact ⟨_, _, _, (show (B_X3_orderSections_29 q a1 a2 x3 s) = (true, ((x3 + 1), s)) from ((if_neg c0).trans ((if_pos c1).trans rfl))), rfl⟩
    · by_cases c2 : (D_X8_objectOf s x3) = a2
      · exact ⟨_, _, _, (show (B_X3_orderSections_29 q a1 a2 x3 s) = (true, ((x3 + 1), (D_X3_append q s x3))) from ((if_neg c0).trans ((if_neg c1).trans ((if_pos c2).trans rfl)))), ((fw_X3_append l15f5 l16 l19 l20).trans rfl)⟩
      · exact ⟨_, _, _, (show (B_X3_orderSections_29 q a1 a2 x3 s) = (true, ((x3 + 1), s)) from ((if_neg c0).trans ((if_neg c1).trans ((if_neg c2).trans rfl)))), rfl⟩
theorem fwr_X3_orderSections_74 {q : Nat} {s : Sg} {a1 : Int32} {k j : Nat} (l15f5 : k ≠ q + 15 ∨ j ≠ 5) (l16 : k ≠ q + 16) (l19 : k ≠ q + 19) (l20 : k ≠ q + 20) : ∃ (f : Bool) (t1 : Int32) (ts : Sg), (R_X3_orderSections_74 q s a1) = (f, (t1, ts)) ∧ ts k j = s k j := by
  exact ⟨_, _, _, (show (R_X3_orderSections_74 q s a1) = (true, ((a1 + 1), s)) from rfl), rfl⟩
theorem fwb_X3_orderSections_7 {q : Nat} {x1 : Int32} {s : Sg} {k j : Nat} (l15f5 : k ≠ q + 15 ∨ j ≠ 5) (l16 : k ≠ q + 16) (l19 : k ≠ q + 19) (l20 : k ≠ q + 20) : ∃ (f : Bool) (t1 : Int32) (ts : Sg), (B_X3_orderSections_7 q x1 s) = (f, (t1, ts)) ∧ ts k j = s k j := by
  by_cases c0 : (D_X10_count q s) ≤ x1
  · exact ⟨_, _, _, (show (B_X3_orderSections_7 q x1 s) = (false, (x1, s)) from ((if_pos c0).trans rfl)), rfl⟩
  · rw [show (B_X3_orderSections_7 q x1 s) = (R_X3_orderSections_74 q ((itr (uc2 (B_X3_orderSections_29 q x1 (D_X10_objectAt q s x1))) BIG (0, s)).2) x1) from ((if_neg c0).trans rfl)]
    exact (exq2t (fwr_X3_orderSections_74 l15f5 l16 l19 l20) ((itr_inv2 (B := B_X3_orderSections_29 q x1 (D_X10_objectAt q s x1)) (I := fun z3 zs => zs k j = s k j) (fun z3 zs hz => exq2 (fwb_X3_orderSections_29 l15f5 l16 l19 l20) hz) BIG 0 s rfl).trans rfl))
theorem fwr_X3_orderSections_80 {q : Nat} {s : Sg} {k j : Nat} (l15f5 : k ≠ q + 15 ∨ j ≠ 5) (l16 : k ≠ q + 16) (l19 : k ≠ q + 19) (l20 : k ≠ q + 20) : (R_X3_orderSections_80 q s) k j = s k j := by
  rw [show (R_X3_orderSections_80 q s) = s from rfl]
  first | done | exact rfl
theorem fw_X3_orderSections {q : Nat} {s : Sg} {k j : Nat} (l15f5 : k ≠ q + 15 ∨ j ≠ 5) (l16 : k ≠ q + 16) (l19 : k ≠ q + 19) (l20 : k ≠ q + 20) : (D_X3_orderSections q s) k j = s k j := by
  rw [show (D_X3_orderSections q s) = (R_X3_orderSections_80 q ((itr (uc2 (B_X3_orderSections_7 q)) BIG (0, (up s (q + 15) 5 0))).2)) from rfl]
  first | done | exact ((fwr_X3_orderSections_80 l15f5 l16 l19 l20).trans ((itr_inv2 (B := B_X3_orderSections_7 q) (I := fun z1 zs => zs k j = (up s (q + 15) 5 0) k j) (fun z1 zs hz => exq2 (fwb_X3_orderSections_7 l15f5 l16 l19 l20) hz) BIG 0 (up s (q + 15) 5 0) rfl).trans ((up_f l15f5).trans rfl)))
-- LinkHarbour$SectionTable.align
noncomputable def D_X8_align (s : Sg) (a1 : Int32) : Int32 := (if (D_X8_has s a1) = 0 then 1 else (s 13 a1.toNatClampNeg))
theorem m_X8_align (hP : WOK b w H0) {s : Sg} {a1 : Int32} : Rx sc g_X8_align 1 ((0, [(0, .ref (b + 11)), (1, .int a1)], [])) (wd b w wl H0 s, kn) (some (.int (D_X8_align s a1))) (wd b w wl H0 s, kn) := by
  show Rx sc g_X8_align 1 (0, [(0, .ref (b + 11)), (1, .int a1)], []) (wd b w wl H0 s, kn) (some (.int (D_X8_align s a1))) (wd b w wl H0 s, kn)
  refine rx_k 2 (2, [(0, .ref (b + 11)), (1, .int a1)], [.int a1, .ref (b + 11)]) (fun _ _ => rfl) ?_
  refine rx_inv rfl rfl (rc_X8_has hP) rfl rfl rfl (q_recv (wg_11 hP)) rfl rfl ?_
  by_cases c0 : (D_X8_has s a1) = 0
  · refine rx_ifT rfl (bt c0) ?_
    refine rx_k 1 (18, [(0, .ref (b + 11)), (1, .int a1)], [.int 1]) (fun _ _ => rfl) ?_
    rw [(show (D_X8_align s a1) = 1 from ((if_pos c0).trans rfl))]
    exact rx_ri rfl
  · refine rx_ifF rfl (bf c0) rfl ?_
    refine rx_k 1 (9, [(0, .ref (b + 11)), (1, .int a1)], [.ref (b + 11)]) (fun _ _ => rfl) ?_
    refine rx_getf rfl rfl (wg_11 hP) rfl ?_
    refine rx_k 1 (13, [(0, .ref (b + 11)), (1, .int a1)], [.int a1, .ref (b + 13)]) (fun _ _ => rfl) ?_
    refine rx_ild rfl rfl (wg_13 hP) (ar_at (rg_X8_has c0)) ?_
    refine rx_k 1 (18, [(0, .ref (b + 11)), (1, .int a1)], [.int (s 13 a1.toNatClampNeg)]) (fun _ _ => rfl) ?_
    rw [(show (D_X8_align s a1) = (s 13 a1.toNatClampNeg) from ((if_neg c0).trans rfl))]
    exact rx_ri rfl
theorem rc_X8_align (hP : WOK b w H0) {s : Sg} {a1 : Int32} : Rc sc 2 124 [.ref (b + 11), .int a1] (wd b w wl H0 s, kn) (some (.int (D_X8_align s a1))) (wd b w wl H0 s, kn) := rx_mc (m_X8_align hP) rfl rfl (Nat.ble_eq_true_of_le (Nat.le_refl _)) (Nat.ble_eq_true_of_le (Nat.le_refl _))
-- LinkHarbour.roundUp
noncomputable def D_X11_roundUp (a0 : Int32) (a1 : Int32) : Int32 := (((a0 + a1) - 1) &&& (-a1))
theorem m_X11_roundUp {hh : EH} {a0 : Int32} {a1 : Int32} : Rx sc g_X11_roundUp 0 ((0, [(0, .int a0), (1, .int a1)], [])) hh (some (.int (D_X11_roundUp a0 a1))) hh := by
  show Rx sc g_X11_roundUp 0 (0, [(0, .int a0), (1, .int a1)], []) hh (some (.int (D_X11_roundUp a0 a1))) hh
  refine rx_k 8 (8, [(0, .int a0), (1, .int a1)], [.int (((a0 + a1) - 1) &&& (-a1))]) (fun _ _ => rfl) ?_
  rw [(show (D_X11_roundUp a0 a1) = (((a0 + a1) - 1) &&& (-a1)) from rfl)]
  exact rx_ri rfl
theorem rc_X11_roundUp {hh : EH} {a0 : Int32} {a1 : Int32} : Rc sc 1 197 [.int a0, .int a1] hh (some (.int (D_X11_roundUp a0 a1))) hh := rx_mc (m_X11_roundUp) rfl rfl (Nat.ble_eq_true_of_le (Nat.le_refl _)) (Nat.ble_eq_true_of_le (Nat.le_refl _))
-- LinkHarbour$Layout.wordsAhead
def fr_X3_wordsAhead_5 (b w : Nat) (q : Nat) (a1 : Int32) (a2 : Int32) (x4 : Int32) (x3 : Int32) : EF := (5, [(0, .ref (b + (q + 15))), (1, .int a1), (2, .int a2), (3, .int x3), (4, .int x4)], [])
def fe_X3_wordsAhead_5 (b w : Nat) (q : Nat) (a1 : Int32) (a2 : Int32) (x4 : Int32) (x3 : Int32) : EF := (34, [(3, .int x3)], [])
noncomputable def B_X3_wordsAhead_5 (q : Nat) (s : Sg) (a1 : Int32) (a2 : Int32) (x4 : Int32) (x3 : Int32) : Bool × (Int32 × Int32) := (if a2 ≤ x4 then (false, (x4, x3)) else (if 8 ≤ x4 then (false, (x4, x3)) else (true, ((x4 + 1), (x3 + (D_X3_width q s a1 x4))))))
theorem b_X3_wordsAhead_5 (hP : WOK b w H0) {q : Nat} (hq : q = 38 ∨ q = 60) {s : Sg} {a1 : Int32} {a2 : Int32} {x4 : Int32} {x3 : Int32} (o : Option Value) (h' : EH) (hN : NN s) (hv : 0 ≤ x4.toInt) (hc : ∀ (t4 : Int32) (t3 : Int32), (B_X3_wordsAhead_5 q s a1 a2 x4 x3) = (true, (t4, t3)) → x4.toInt < 2147483647 → t4 = x4 + 1 → Rx sc g_X3_wordsAhead 2 (fr_X3_wordsAhead_5 b w q a1 a2 t4 t3) (wd b w wl H0 s, kn) o h') (he : ∀ (t4 : Int32) (t3 : Int32), (B_X3_wordsAhead_5 q s a1 a2 x4 x3) = (false, (t4, t3)) → Rx sc g_X3_wordsAhead 2 (fe_X3_wordsAhead_5 b w q a1 a2 t4 t3) (wd b w wl H0 s, kn) o h') : Rx sc g_X3_wordsAhead 2 (fr_X3_wordsAhead_5 b w q a1 a2 x4 x3) (wd b w wl H0 s, kn) o h' := by
  show Rx sc g_X3_wordsAhead 2 (5, [(0, .ref (b + (q + 15))), (1, .int a1), (2, .int a2), (3, .int x3), (4, .int x4)], []) (wd b w wl H0 s, kn) o h'
  refine rx_k 2 (8, [(0, .ref (b + (q + 15))), (1, .int a1), (2, .int a2), (3, .int x3), (4, .int x4)], [.int a2, .int x4]) (fun _ _ => rfl) ?_
  by_cases c0 : a2 ≤ x4
  · refine rx_icT rfl (bt c0) ?_
    exact rx_lo am_X3_wordsAhead (lo := [(3, .int x3)]) (List.forall_mem_cons.mpr ⟨List.mem_of_getElem? (i := 3) rfl, (fun _ h => absurd h List.not_mem_nil)⟩) rfl (he _ _ (show (B_X3_wordsAhead_5 q s a1 a2 x4 x3) = (false, (x4, x3)) from ((if_pos c0).trans rfl)))
  · refine rx_icF rfl (bf c0) rfl ?_
    refine rx_k 2 (15, [(0, .ref (b + (q + 15))), (1, .int a1), (2, .int a2), (3, .int x3), (4, .int x4)], [.int 8, .int x4]) (fun _ _ => rfl) ?_
    by_cases c1 : 8 ≤ x4
    · refine rx_icT rfl (bt c1) ?_
      exact rx_lo am_X3_wordsAhead (lo := [(3, .int x3)]) (List.forall_mem_cons.mpr ⟨List.mem_of_getElem? (i := 3) rfl, (fun _ h => absurd h List.not_mem_nil)⟩) rfl (he _ _ (show (B_X3_wordsAhead_5 q s a1 a2 x4 x3) = (false, (x4, x3)) from ((if_neg c0).trans ((if_pos c1).trans rfl))))
    · refine rx_icF rfl (bf c1) rfl ?_
      refine rx_k 4 (23, [(0, .ref (b + (q + 15))), (1, .int a1), (2, .int a2), (3, .int x3), (4, .int x4)], [.int x4, .int a1, .ref (b + (q + 15)), .int x3]) (fun _ _ => rfl) ?_
      refine rx_inv rfl rfl (rc_X3_width hP hq) rfl rfl rfl (q_recv (wl_15 hP hq)) rfl rfl ?_
      refine rx_k 4 (5, [(4, .int (x4 + 1)), (3, .int (x3 + (D_X3_width q s a1 x4))), (0, .ref (b + (q + 15))), (1, .int a1), (2, .int a2)], []) (fun _ _ => rfl) ?_
      refine rx_lo am_X3_wordsAhead (lo := [(0, .ref (b + (q + 15))), (1, .int a1), (2, .int a2), (3, .int (x3 + (D_X3_width q s a1 x4))), (4, .int (x4 + 1))]) (List.forall_mem_cons.mpr ⟨List.mem_of_getElem? (i := 2) rfl, (List.forall_mem_cons.mpr ⟨List.mem_of_getElem? (i := 3) rfl, (List.forall_mem_cons.mpr ⟨List.mem_of_getElem? (i := 4) rfl, (List.forall_mem_cons.mpr ⟨List.mem_of_getElem? (i := 1) rfl, (List.forall_mem_cons.mpr ⟨List.mem_of_getElem? (i := 0) rfl, (fun _ h => absurd h List.not_mem_nil)⟩)⟩)⟩)⟩)⟩) rfl (hc _ _ (show (B_X3_wordsAhead_5 q s a1 a2 x4 x3) = (true, ((x4 + 1), (x3 + (D_X3_width q s a1 x4)))) from ((if_neg c0).trans ((if_neg c1).trans rfl))) (lt_nle c0) rfl)
noncomputable def R_X3_wordsAhead_34 (q : Nat) (s : Sg) (a3 : Int32) : Int32 := a3
theorem r_X3_wordsAhead_34 (hP : WOK b w H0) {q : Nat} (hq : q = 38 ∨ q = 60) {s : Sg} {a3 : Int32} (hN : NN s) : Rx sc g_X3_wordsAhead 2 ((34, [(3, .int a3)], [])) (wd b w wl H0 s, kn) (some (.int (R_X3_wordsAhead_34 q s a3))) (wd b w wl H0 s, kn) := by
  show Rx sc g_X3_wordsAhead 2 (34, [(3, .int a3)], []) (wd b w wl H0 s, kn) (some (.int (R_X3_wordsAhead_34 q s a3))) (wd b w wl H0 s, kn)
  refine rx_k 1 (35, [(3, .int a3)], [.int a3]) (fun _ _ => rfl) ?_
  rw [(show (R_X3_wordsAhead_34 q s a3) = a3 from rfl)]
  exact rx_ri rfl
noncomputable def D_X3_wordsAhead (q : Nat) (s : Sg) (a1 : Int32) (a2 : Int32) : Int32 := (R_X3_wordsAhead_34 q s ((itr (uc2 (B_X3_wordsAhead_5 q s a1 a2)) BIG (0, 0)).2))
theorem m_X3_wordsAhead (hP : WOK b w H0) {q : Nat} (hq : q = 38 ∨ q = 60) {s : Sg} {a1 : Int32} {a2 : Int32} (hN : NN s) : Rx sc g_X3_wordsAhead 2 ((0, [(0, .ref (b + (q + 15))), (1, .int a1), (2, .int a2)], [])) (wd b w wl H0 s, kn) (some (.int (D_X3_wordsAhead q s a1 a2))) (wd b w wl H0 s, kn) := by
  show Rx sc g_X3_wordsAhead 2 (0, [(0, .ref (b + (q + 15))), (1, .int a1), (2, .int a2)], []) (wd b w wl H0 s, kn) (some (.int (D_X3_wordsAhead q s a1 a2))) (wd b w wl H0 s, kn)
  refine rx_k 4 (5, [(4, .int 0), (3, .int 0), (0, .ref (b + (q + 15))), (1, .int a1), (2, .int a2)], []) (fun _ _ => rfl) ?_
  refine rx_lo am_X3_wordsAhead (lo := [(0, .ref (b + (q + 15))), (1, .int a1), (2, .int a2), (3, .int 0), (4, .int 0)]) (List.forall_mem_cons.mpr ⟨List.mem_of_getElem? (i := 2) rfl, (List.forall_mem_cons.mpr ⟨List.mem_of_getElem? (i := 3) rfl, (List.forall_mem_cons.mpr ⟨List.mem_of_getElem? (i := 4) rfl, (List.forall_mem_cons.mpr ⟨List.mem_of_getElem? (i := 1) rfl, (List.forall_mem_cons.mpr ⟨List.mem_of_getElem? (i := 0) rfl, (fun _ h => absurd h List.not_mem_nil)⟩)⟩)⟩)⟩)⟩) rfl ?_
  refine rx_loop2p (B := B_X3_wordsAhead_5 q s a1 a2) (fr := (fr_X3_wordsAhead_5 b w q a1 a2)) (E := (fe_X3_wordsAhead_5 b w q a1 a2)) (hp := (wd b w wl H0 s, kn)) (fun z4 z3 oo hh9 hI9 hv9 hc9 he9 => b_X3_wordsAhead_5 hP hq oo hh9 hN hv9 hc9 he9)  BIG 0 0 _ _  (by decide : (0 : Int) ≤ (0 : Int32).toInt) (le_enough (by decide : (0 : Int) ≤ (0 : Int32).toInt)) ?_
  rw [(show (D_X3_wordsAhead q s a1 a2) = (R_X3_wordsAhead_34 q s ((itr (uc2 (B_X3_wordsAhead_5 q s a1 a2)) BIG (0, 0)).2)) from rfl)]
  exact r_X3_wordsAhead_34 hP hq hN
theorem rc_X3_wordsAhead (hP : WOK b w H0) {q : Nat} (hq : q = 38 ∨ q = 60) {s : Sg} {a1 : Int32} {a2 : Int32} (hN : NN s) : Rc sc 3 37 [.ref (b + (q + 15)), .int a1, .int a2] (wd b w wl H0 s, kn) (some (.int (D_X3_wordsAhead q s a1 a2))) (wd b w wl H0 s, kn) := rx_mc (m_X3_wordsAhead hP hq hN) rfl rfl (Nat.ble_eq_true_of_le (Nat.le_refl _)) (Nat.ble_eq_true_of_le (Nat.le_refl _))
-- LinkHarbour$Layout.placeSections
def fr_X3_placeSections_12 (b w : Nat) (q : Nat) (x1 : Int32) : EF := (12, [(0, .ref (b + (q + 15))), (1, .int x1)], [])
def fe_X3_placeSections_12 (b w : Nat) (q : Nat) (x1 : Int32) : EF := (114, [], [])
noncomputable def B_X3_placeSections_12 (q : Nat) (x1 : Int32) (s : Sg) : Bool × (Int32 × Sg) := (if (s (q + 15) 5) ≤ x1 then (false, (x1, s)) else (if 24 ≤ x1 then (false, (x1, s)) else (if (D_X11_isIn (s (q + 16) x1.toNatClampNeg) 24) = 0 then (true, ((x1 + 1), s)) else (true, ((x1 + 1), (up (up (up (up s (q + 17) (s (q + 16) x1.toNatClampNeg).toNatClampNeg (D_X11_roundUp (s (q + 15) 11) (D_X8_align s (s (q + 16) x1.toNatClampNeg)))) (q + 18) (s (q + 16) x1.toNatClampNeg).toNatClampNeg (D_X3_wordsAhead q (up s (q + 17) (s (q + 16) x1.toNatClampNeg).toNatClampNeg (D_X11_roundUp (s (q + 15) 11) (D_X8_align s (s (q + 16) x1.toNatClampNeg)))) (s (q + 16) x1.toNatClampNeg) 8)) (q + 15) 12 ((s (q + 15) 12) + (D_X3_wordsAhead q (up s (q + 17) (s (q + 16) x1.toNatClampNeg).toNatClampNeg (D_X11_roundUp (s (q + 15) 11) (D_X8_align s (s (q + 16) x1.toNatClampNeg)))) (s (q + 16) x1.toNatClampNeg) 8))) (q + 15) 11 ((D_X11_roundUp (s (q + 15) 11) (D_X8_align s (s (q + 16) x1.toNatClampNeg))) + (D_X3_wordsAhead q (up s (q + 17) (s (q + 16) x1.toNatClampNeg).toNatClampNeg (D_X11_roundUp (s (q + 15) 11) (D_X8_align s (s (q + 16) x1.toNatClampNeg)))) (s (q + 16) x1.toNatClampNeg) 8))))))))
theorem b_X3_placeSections_12 (hP : WOK b w H0) {q : Nat} (hq : q = 38 ∨ q = 60) {s : Sg} {x1 : Int32} (o : Option Value) (h' : EH) (hN : NN s) (hv : 0 ≤ x1.toInt) (hc : ∀ (t1 : Int32) (ts : Sg), (B_X3_placeSections_12 q x1 s) = (true, (t1, ts)) → x1.toInt < 2147483647 → t1 = x1 + 1 → Rx sc g_X3_placeSections 3 (fr_X3_placeSections_12 b w q t1) (wd b w wl H0 ts, kn) o h') (he : ∀ (t1 : Int32) (ts : Sg), (B_X3_placeSections_12 q x1 s) = (false, (t1, ts)) → Rx sc g_X3_placeSections 3 (fe_X3_placeSections_12 b w q t1) (wd b w wl H0 ts, kn) o h') : Rx sc g_X3_placeSections 3 (fr_X3_placeSections_12 b w q x1) (wd b w wl H0 s, kn) o h' := by
  show Rx sc g_X3_placeSections 3 (12, [(0, .ref (b + (q + 15))), (1, .int x1)], []) (wd b w wl H0 s, kn) o h'
  refine rx_k 2 (14, [(0, .ref (b + (q + 15))), (1, .int x1)], [.ref (b + (q + 15)), .int x1]) (fun _ _ => rfl) ?_
  refine rx_getf rfl rfl (wl_15 hP hq) rfl ?_
  by_cases c0 : (s (q + 15) 5) ≤ x1
  · refine rx_icT rfl (bt c0) ?_
    exact rx_lo am_X3_placeSections (lo := []) (fun _ h => absurd h List.not_mem_nil) rfl (he _ _ (show (B_X3_placeSections_12 q x1 s) = (false, (x1, s)) from ((if_pos c0).trans rfl)))
  · refine rx_icF rfl (bf c0) rfl ?_
    refine rx_k 2 (23, [(0, .ref (b + (q + 15))), (1, .int x1)], [.int 24, .int x1]) (fun _ _ => rfl) ?_
    by_cases c1 : 24 ≤ x1
    · refine rx_icT rfl (bt c1) ?_
      exact rx_lo am_X3_placeSections (lo := []) (fun _ h => absurd h List.not_mem_nil) rfl (he _ _ (show (B_X3_placeSections_12 q x1 s) = (false, (x1, s)) from ((if_neg c0).trans ((if_pos c1).trans rfl))))
    · refine rx_icF rfl (bf c1) rfl ?_
      refine rx_k 1 (27, [(0, .ref (b + (q + 15))), (1, .int x1)], [.ref (b + (q + 15))]) (fun _ _ => rfl) ?_
      refine rx_getf rfl rfl (wl_15 hP hq) rfl ?_
      refine rx_k 1 (31, [(0, .ref (b + (q + 15))), (1, .int x1)], [.int x1, .ref (b + (q + 16))]) (fun _ _ => rfl) ?_
      refine rx_ild rfl rfl (wl_16 hP hq) (ar_at (rg_c hv c1 (m := 24) (n := 24) rfl)) ?_
      refine rx_k 3 (36, [(2, .int (s (q + 16) x1.toNatClampNeg)), (0, .ref (b + (q + 15))), (1, .int x1)], [.int 24, .int (s (q + 16) x1.toNatClampNeg)]) (fun _ _ => rfl) ?_
      refine rx_inv rfl rfl (rc_X11_isIn) rfl rfl rfl rfl rfl rfl ?_
      by_cases c2 : (D_X11_isIn (s (q + 16) x1.toNatClampNeg) 24) = 0
      · refine rx_ifT rfl (bt c2) ?_
        refine rx_k 2 (12, [(1, .int (x1 + 1)), (2, .int (s (q + 16) x1.toNatClampNeg)), (0, .ref (b + (q + 15)))], []) (fun _ _ => rfl) ?_
        refine rx_lo am_X3_placeSections (lo := [(0, .ref (b + (q + 15))), (1, .int (x1 + 1))]) (List.forall_mem_cons.mpr ⟨List.mem_of_getElem? (i := 2) rfl, (List.forall_mem_cons.mpr ⟨List.mem_of_getElem? (i := 0) rfl, (fun _ h => absurd h List.not_mem_nil)⟩)⟩) rfl (hc _ _ (show (B_X3_placeSections_12 q x1 s) = (true, ((x1 + 1), s)) from ((if_neg c0).trans ((if_neg c1).trans ((if_pos c2).trans rfl)))) (lt_nle c0) rfl)
      · refine rx_ifF rfl (bf c2) rfl ?_
        refine rx_k 1 (43, [(2, .int (s (q + 16) x1.toNatClampNeg)), (0, .ref (b + (q + 15))), (1, .int x1)], [.ref (b + (q + 15))]) (fun _ _ => rfl) ?_
        refine rx_getf rfl rfl (wl_15 hP hq) rfl ?_
        refine rx_k 2 (48, [(2, .int (s (q + 16) x1.toNatClampNeg)), (0, .ref (b + (q + 15))), (1, .int x1)], [.ref (b + (q + 15)), .int (s (q + 16) x1.toNatClampNeg), .ref (b + (q + 17))]) (fun _ _ => rfl) ?_
        refine rx_getf rfl rfl (wl_15 hP hq) rfl ?_
        refine rx_k 1 (52, [(2, .int (s (q + 16) x1.toNatClampNeg)), (0, .ref (b + (q + 15))), (1, .int x1)], [.ref (b + (q + 15)), .int (s (q + 15) 11), .int (s (q + 16) x1.toNatClampNeg), .ref (b + (q + 17))]) (fun _ _ => rfl) ?_
        refine rx_getf rfl rfl (wl_15 hP hq) rfl ?_
        refine rx_k 1 (56, [(2, .int (s (q + 16) x1.toNatClampNeg)), (0, .ref (b + (q + 15))), (1, .int x1)], [.int (s (q + 16) x1.toNatClampNeg), .ref (b + 11), .int (s (q + 15) 11), .int (s (q + 16) x1.toNatClampNeg), .ref (b + (q + 17))]) (fun _ _ => rfl) ?_
        refine rx_inv rfl rfl (rc_X8_align hP) rfl rfl rfl (q_recv (wg_11 hP)) rfl rfl ?_
        refine rx_inv rfl rfl (rc_X11_roundUp) rfl rfl rfl rfl rfl rfl ?_
        refine rx_ist rfl rfl (wl_17 hP hq) rfl (ar_at (rg_isIn c2 (m := 24) (n := 24) rfl)) (wz_17 hP hq (rg_isIn c2 (m := 24) (n := 24) rfl)) ?_
        refine rx_k 1 (64, [(2, .int (s (q + 16) x1.toNatClampNeg)), (0, .ref (b + (q + 15))), (1, .int x1)], [.ref (b + (q + 15))]) (fun _ _ => rfl) ?_
        refine rx_getf rfl rfl (wl_15 hP hq) rfl ?_
        refine rx_k 4 (72, [(2, .int (s (q + 16) x1.toNatClampNeg)), (0, .ref (b + (q + 15))), (1, .int x1)], [.int 8, .int (s (q + 16) x1.toNatClampNeg), .ref (b + (q + 15)), .int (s (q + 16) x1.toNatClampNeg), .ref (b + (q + 18))]) (fun _ _ => rfl) ?_
        refine rx_inv rfl rfl (rc_X3_wordsAhead hP hq (nn_0 (by rcases hq with rfl | rfl <;> rfl) hN)) rfl rfl rfl (q_recv (wl_15 hP hq)) rfl rfl ?_
        refine rx_ist rfl rfl (wl_18 hP hq) rfl (ar_at (rg_isIn c2 (m := 24) (n := 24) rfl)) (wz_18 hP hq (rg_isIn c2 (m := 24) (n := 24) rfl)) ?_
        refine rx_k 2 (78, [(2, .int (s (q + 16) x1.toNatClampNeg)), (0, .ref (b + (q + 15))), (1, .int x1)], [.ref (b + (q + 15)), .ref (b + (q + 15))]) (fun _ _ => rfl) ?_
        refine rx_getf (v := .int (s (q + 15) 12)) rfl rfl (wl_15 hP hq) (congrArg (fun z => some (Value.int z)) ((rd_nk (by omega)).trans (rd_nk (by omega)))) ?_
        refine rx_k 1 (82, [(2, .int (s (q + 16) x1.toNatClampNeg)), (0, .ref (b + (q + 15))), (1, .int x1)], [.ref (b + (q + 15)), .int (s (q + 15) 12), .ref (b + (q + 15))]) (fun _ _ => rfl) ?_
        refine rx_getf rfl rfl (wl_15 hP hq) rfl ?_
        refine rx_k 1 (86, [(2, .int (s (q + 16) x1.toNatClampNeg)), (0, .ref (b + (q + 15))), (1, .int x1)], [.int (s (q + 16) x1.toNatClampNeg), .ref (b + (q + 18)), .int (s (q + 15) 12), .ref (b + (q + 15))]) (fun _ _ => rfl) ?_
        refine rx_ild (x := (D_X3_wordsAhead q (up s (q + 17) (s (q + 16) x1.toNatClampNeg).toNatClampNeg (D_X11_roundUp (s (q + 15) 11) (D_X8_align s (s (q + 16) x1.toNatClampNeg)))) (s (q + 16) x1.toNatClampNeg) 8)) rfl rfl (wl_18 hP hq) ((ar_at (rg_isIn c2 (m := 24) (n := 24) rfl)).trans (congrArg (fun z => some (Value.int z)) rd_eq)) ?_
        refine rx_k 1 (88, [(2, .int (s (q + 16) x1.toNatClampNeg)), (0, .ref (b + (q + 15))), (1, .int x1)], [.int ((s (q + 15) 12) + (D_X3_wordsAhead q (up s (q + 17) (s (q + 16) x1.toNatClampNeg).toNatClampNeg (D_X11_roundUp (s (q + 15) 11) (D_X8_align s (s (q + 16) x1.toNatClampNeg)))) (s (q + 16) x1.toNatClampNeg) 8)), .ref (b + (q + 15))]) (fun _ _ => rfl) ?_
        refine rx_putf rfl rfl (wl_15 hP hq) rfl (wz_15_12 hP hq) ?_
        refine rx_k 2 (93, [(2, .int (s (q + 16) x1.toNatClampNeg)), (0, .ref (b + (q + 15))), (1, .int x1)], [.ref (b + (q + 15)), .ref (b + (q + 15))]) (fun _ _ => rfl) ?_
        refine rx_getf rfl rfl (wl_15 hP hq) rfl ?_
        refine rx_k 1 (97, [(2, .int (s (q + 16) x1.toNatClampNeg)), (0, .ref (b + (q + 15))), (1, .int x1)], [.int (s (q + 16) x1.toNatClampNeg), .ref (b + (q + 17)), .ref (b + (q + 15))]) (fun _ _ => rfl) ?_
        refine rx_ild (x := (D_X11_roundUp (s (q + 15) 11) (D_X8_align s (s (q + 16) x1.toNatClampNeg)))) rfl rfl (wl_17 hP hq) ((ar_at (rg_isIn c2 (m := 24) (n := 24) rfl)).trans (congrArg (fun z => some (Value.int z)) (((rd_nk (by omega)).trans (rd_nk (by omega))).trans rd_eq))) ?_
        refine rx_k 1 (99, [(2, .int (s (q + 16) x1.toNatClampNeg)), (0, .ref (b + (q + 15))), (1, .int x1)], [.ref (b + (q + 15)), .int (D_X11_roundUp (s (q + 15) 11) (D_X8_align s (s (q + 16) x1.toNatClampNeg))), .ref (b + (q + 15))]) (fun _ _ => rfl) ?_
        refine rx_getf rfl rfl (wl_15 hP hq) rfl ?_
        refine rx_k 1 (103, [(2, .int (s (q + 16) x1.toNatClampNeg)), (0, .ref (b + (q + 15))), (1, .int x1)], [.int (s (q + 16) x1.toNatClampNeg), .ref (b + (q + 18)), .int (D_X11_roundUp (s (q + 15) 11) (D_X8_align s (s (q + 16) x1.toNatClampNeg))), .ref (b + (q + 15))]) (fun _ _ => rfl) ?_
        refine rx_ild (x := (D_X3_wordsAhead q (up s (q + 17) (s (q + 16) x1.toNatClampNeg).toNatClampNeg (D_X11_roundUp (s (q + 15) 11) (D_X8_align s (s (q + 16) x1.toNatClampNeg)))) (s (q + 16) x1.toNatClampNeg) 8)) rfl rfl (wl_18 hP hq) ((ar_at (rg_isIn c2 (m := 24) (n := 24) rfl)).trans (congrArg (fun z => some (Value.int z)) ((rd_nk (by omega)).trans rd_eq))) ?_
        refine rx_k 1 (105, [(2, .int (s (q + 16) x1.toNatClampNeg)), (0, .ref (b + (q + 15))), (1, .int x1)], [.int ((D_X11_roundUp (s (q + 15) 11) (D_X8_align s (s (q + 16) x1.toNatClampNeg))) + (D_X3_wordsAhead q (up s (q + 17) (s (q + 16) x1.toNatClampNeg).toNatClampNeg (D_X11_roundUp (s (q + 15) 11) (D_X8_align s (s (q + 16) x1.toNatClampNeg)))) (s (q + 16) x1.toNatClampNeg) 8)), .ref (b + (q + 15))]) (fun _ _ => rfl) ?_
        refine rx_putf rfl rfl (wl_15 hP hq) rfl (wz_15_11 hP hq) ?_
        refine rx_k 2 (12, [(1, .int (x1 + 1)), (2, .int (s (q + 16) x1.toNatClampNeg)), (0, .ref (b + (q + 15)))], []) (fun _ _ => rfl) ?_
        refine rx_lo am_X3_placeSections (lo := [(0, .ref (b + (q + 15))), (1, .int (x1 + 1))]) (List.forall_mem_cons.mpr ⟨List.mem_of_getElem? (i := 2) rfl, (List.forall_mem_cons.mpr ⟨List.mem_of_getElem? (i := 0) rfl, (fun _ h => absurd h List.not_mem_nil)⟩)⟩) rfl (hc _ _ (show (B_X3_placeSections_12 q x1 s) = (true, ((x1 + 1), (up (up (up (up s (q + 17) (s (q + 16) x1.toNatClampNeg).toNatClampNeg (D_X11_roundUp (s (q + 15) 11) (D_X8_align s (s (q + 16) x1.toNatClampNeg)))) (q + 18) (s (q + 16) x1.toNatClampNeg).toNatClampNeg (D_X3_wordsAhead q (up s (q + 17) (s (q + 16) x1.toNatClampNeg).toNatClampNeg (D_X11_roundUp (s (q + 15) 11) (D_X8_align s (s (q + 16) x1.toNatClampNeg)))) (s (q + 16) x1.toNatClampNeg) 8)) (q + 15) 12 ((s (q + 15) 12) + (D_X3_wordsAhead q (up s (q + 17) (s (q + 16) x1.toNatClampNeg).toNatClampNeg (D_X11_roundUp (s (q + 15) 11) (D_X8_align s (s (q + 16) x1.toNatClampNeg)))) (s (q + 16) x1.toNatClampNeg) 8))) (q + 15) 11 ((D_X11_roundUp (s (q + 15) 11) (D_X8_align s (s (q + 16) x1.toNatClampNeg))) + (D_X3_wordsAhead q (up s (q + 17) (s (q + 16) x1.toNatClampNeg).toNatClampNeg (D_X11_roundUp (s (q + 15) 11) (D_X8_align s (s (q + 16) x1.toNatClampNeg)))) (s (q + 16) x1.toNatClampNeg) 8))))) from ((if_neg c0).trans ((if_neg c1).trans ((if_neg c2).trans rfl)))) (lt_nle c0) rfl)
theorem nb_X3_placeSections_12 {q : Nat} (hq : q = 38 ∨ q = 60) {x1 : Int32} {s : Sg} (hN : NN s) : ∃ (f : Bool) (t1 : Int32) (ts : Sg), (B_X3_placeSections_12 q x1 s) = (f, (t1, ts)) ∧ NN ts := by
  by_cases c0 : (s (q + 15) 5) ≤ x1
  · exact ⟨_, _, _, (show (B_X3_placeSections_12 q x1 s) = (false, (x1, s)) from ((if_pos c0).trans rfl)), hN⟩
  · by_cases c1 : 24 ≤ x1
    · exact ⟨_, _, _, (show (B_X3_placeSections_12 q x1 s) = (false, (x1, s)) from ((if_neg c0).trans ((if_pos c1).trans rfl))), hN⟩
    · by_cases c2 : (D_X11_isIn (s (q + 16) x1.toNatClampNeg) 24) = 0
      · exact ⟨_, _, _, (show (B_X3_placeSections_12 q x1 s) = (true, ((x1 + 1), s)) from ((if_neg c0).trans ((if_neg c1).trans ((if_pos c2).trans rfl)))), hN⟩
      · exact ⟨_, _, _, (show (B_X3_placeSections_12 q x1 s) = (true, ((x1 + 1), (up (up (up (up s (q + 17) (s (q + 16) x1.toNatClampNeg).toNatClampNeg (D_X11_roundUp (s (q + 15) 11) (D_X8_align s (s (q + 16) x1.toNatClampNeg)))) (q + 18) (s (q + 16) x1.toNatClampNeg).toNatClampNeg (D_X3_wordsAhead q (up s (q + 17) (s (q + 16) x1.toNatClampNeg).toNatClampNeg (D_X11_roundUp (s (q + 15) 11) (D_X8_align s (s (q + 16) x1.toNatClampNeg)))) (s (q + 16) x1.toNatClampNeg) 8)) (q + 15) 12 ((s (q + 15) 12) + (D_X3_wordsAhead q (up s (q + 17) (s (q + 16) x1.toNatClampNeg).toNatClampNeg (D_X11_roundUp (s (q + 15) 11) (D_X8_align s (s (q + 16) x1.toNatClampNeg)))) (s (q + 16) x1.toNatClampNeg) 8))) (q + 15) 11 ((D_X11_roundUp (s (q + 15) 11) (D_X8_align s (s (q + 16) x1.toNatClampNeg))) + (D_X3_wordsAhead q (up s (q + 17) (s (q + 16) x1.toNatClampNeg).toNatClampNeg (D_X11_roundUp (s (q + 15) 11) (D_X8_align s (s (q + 16) x1.toNatClampNeg)))) (s (q + 16) x1.toNatClampNeg) 8))))) from ((if_neg c0).trans ((if_neg c1).trans ((if_neg c2).trans rfl)))), (nn_f (by rcases hq with rfl | rfl <;> rfl) (nn_f (by rcases hq with rfl | rfl <;> rfl) (nn_0 (by rcases hq with rfl | rfl <;> rfl) (nn_0 (by rcases hq with rfl | rfl <;> rfl) hN))))⟩
noncomputable def R_X3_placeSections_114 (q : Nat) (s : Sg) : Sg := s
theorem r_X3_placeSections_114 (hP : WOK b w H0) {q : Nat} (hq : q = 38 ∨ q = 60) {s : Sg} (hN : NN s) : Rx sc g_X3_placeSections 3 ((114, [], [])) (wd b w wl H0 s, kn) none (wd b w wl H0 (R_X3_placeSections_114 q s), kn) := by
  show Rx sc g_X3_placeSections 3 (114, [], []) (wd b w wl H0 s, kn) none (wd b w wl H0 (R_X3_placeSections_114 q s), kn)
  rw [(show (R_X3_placeSections_114 q s) = s from rfl)]
  exact rx_rv rfl
theorem nr_X3_placeSections_114 {q : Nat} (hq : q = 38 ∨ q = 60) {s : Sg} (hN : NN s) : NN ((R_X3_placeSections_114 q s)) := by
  rw [show (R_X3_placeSections_114 q s) = s from rfl]
  exact hN
noncomputable def D_X3_placeSections (q : Nat) (s : Sg) : Sg := (R_X3_placeSections_114 q ((itr (uc2 (B_X3_placeSections_12 q)) BIG (0, (up (up s (q + 15) 11 1) (q + 15) 12 0))).2))
theorem m_X3_placeSections (hP : WOK b w H0) {q : Nat} (hq : q = 38 ∨ q = 60) {s : Sg} (hN : NN s) : Rx sc g_X3_placeSections 3 ((0, [(0, .ref (b + (q + 15)))], [])) (wd b w wl H0 s, kn) none (wd b w wl H0 (D_X3_placeSections q s), kn) := by
  show Rx sc g_X3_placeSections 3 (0, [(0, .ref (b + (q + 15)))], []) (wd b w wl H0 s, kn) none (wd b w wl H0 (D_X3_placeSections q s), kn)
  refine rx_k 2 (2, [(0, .ref (b + (q + 15)))], [.int 1, .ref (b + (q + 15))]) (fun _ _ => rfl) ?_
  refine rx_putf rfl rfl (wl_15 hP hq) rfl (wz_15_11 hP hq) ?_
  refine rx_k 2 (7, [(0, .ref (b + (q + 15)))], [.int 0, .ref (b + (q + 15))]) (fun _ _ => rfl) ?_
  refine rx_putf rfl rfl (wl_15 hP hq) rfl (wz_15_12 hP hq) ?_
  refine rx_k 2 (12, [(1, .int 0), (0, .ref (b + (q + 15)))], []) (fun _ _ => rfl) ?_
  refine rx_lo am_X3_placeSections (lo := [(0, .ref (b + (q + 15))), (1, .int 0)]) (List.forall_mem_cons.mpr ⟨List.mem_of_getElem? (i := 1) rfl, (List.forall_mem_cons.mpr ⟨List.mem_of_getElem? (i := 0) rfl, (fun _ h => absurd h List.not_mem_nil)⟩)⟩) rfl ?_
  refine rx_loop2s (B := B_X3_placeSections_12 q) (fr := (fr_X3_placeSections_12 b w q)) (E := (fe_X3_placeSections_12 b w q)) (I := fun z1 zs => NN zs) (fun z1 zs oo hh9 hI9 hv9 hc9 he9 => b_X3_placeSections_12 hP hq oo hh9 hI9 hv9 hc9 he9) (fun z1 zs hz => nb_X3_placeSections_12 hq hz) BIG 0 (up (up s (q + 15) 11 1) (q + 15) 12 0) _ _ (nn_f (by rcases hq with rfl | rfl <;> rfl) (nn_f (by rcases hq with rfl | rfl <;> rfl) hN)) (by decide : (0 : Int) ≤ (0 : Int32).toInt) (le_enough (by decide : (0 : Int) ≤ (0 : Int32).toInt)) ?_
  rw [(show (D_X3_placeSections q s) = (R_X3_placeSections_114 q ((itr (uc2 (B_X3_placeSections_12 q)) BIG (0, (up (up s (q + 15) 11 1) (q + 15) 12 0))).2)) from rfl)]
  exact r_X3_placeSections_114 hP hq (itr_inv2 (B := B_X3_placeSections_12 q) (I := fun z1 zs => NN zs) (fun z1 zs hz => nb_X3_placeSections_12 hq hz) BIG 0 (up (up s (q + 15) 11 1) (q + 15) 12 0) (nn_f (by rcases hq with rfl | rfl <;> rfl) (nn_f (by rcases hq with rfl | rfl <;> rfl) hN)))
theorem rc_X3_placeSections (hP : WOK b w H0) {q : Nat} (hq : q = 38 ∨ q = 60) {s : Sg} (hN : NN s) : Rc sc 4 34 [.ref (b + (q + 15))] (wd b w wl H0 s, kn) none (wd b w wl H0 (D_X3_placeSections q s), kn) := rx_mc (m_X3_placeSections hP hq hN) rfl rfl (Nat.ble_eq_true_of_le (Nat.le_refl _)) (Nat.ble_eq_true_of_le (Nat.le_refl _))
theorem nn_X3_placeSections {q : Nat} (hq : q = 38 ∨ q = 60) {s : Sg} (hN : NN s) : NN (D_X3_placeSections q s) := by
  rw [show (D_X3_placeSections q s) = (R_X3_placeSections_114 q ((itr (uc2 (B_X3_placeSections_12 q)) BIG (0, (up (up s (q + 15) 11 1) (q + 15) 12 0))).2)) from rfl]
  exact (nr_X3_placeSections_114 hq (itr_inv2 (B := B_X3_placeSections_12 q) (I := fun z1 zs => NN zs) (fun z1 zs hz => nb_X3_placeSections_12 hq hz) BIG 0 (up (up s (q + 15) 11 1) (q + 15) 12 0) (nn_f (by rcases hq with rfl | rfl <;> rfl) (nn_f (by rcases hq with rfl | rfl <;> rfl) hN))))
theorem fwb_X3_placeSections_12 {q : Nat} {x1 : Int32} {s : Sg} {k j : Nat} (l15f11 : k ≠ q + 15 ∨ j ≠ 11) (l15f12 : k ≠ q + 15 ∨ j ≠ 12) (l17 : k ≠ q + 17) (l18 : k ≠ q + 18) : ∃ (f : Bool) (t1 : Int32) (ts : Sg), (B_X3_placeSections_12 q x1 s) = (f, (t1, ts)) ∧ ts k j = s k j := by
  by_cases c0 : (s (q + 15) 5) ≤ x1
  · exact ⟨_, _, _, (show (B_X3_placeSections_12 q x1 s) = (false, (x1, s)) from ((if_pos c0).trans rfl)), rfl⟩
  · by_cases c1 : 24 ≤ x1
    · exact ⟨_, _, _, (show (B_X3_placeSections_12 q x1 s) = (false, (x1, s)) from ((if_neg c0).trans ((if_pos c1).trans rfl))), rfl⟩
    · by_cases c2 : (D_X11_isIn (s (q + 16) x1.toNatClampNeg) 24) = 0
      · exact ⟨_, _, _, (show (B_X3_placeSections_12 q x1 s) = (true, ((x1 + 1), s)) from ((if_neg c0).trans ((if_neg c1).trans ((if_pos c2).trans rfl)))), rfl⟩
      · exact ⟨_, _, _, (show (B_X3_placeSections_12 q x1 s) = (true, ((x1 + 1), (up (up (up (up s (q + 17) (s (q + 16) x1.toNatClampNeg).toNatClampNeg (D_X11_roundUp (s (q + 15) 11) (D_X8_align s (s (q + 16) x1.toNatClampNeg)))) (q + 18) (s (q + 16) x1.toNatClampNeg).toNatClampNeg (D_X3_wordsAhead q (up s (q + 17) (s (q + 16) x1.toNatClampNeg).toNatClampNeg (D_X11_roundUp (s (q + 15) 11) (D_X8_align s (s (q + 16) x1.toNatClampNeg)))) (s (q + 16) x1.toNatClampNeg) 8)) (q + 15) 12 ((s (q + 15) 12) + (D_X3_wordsAhead q (up s (q + 17) (s (q + 16) x1.toNatClampNeg).toNatClampNeg (D_X11_roundUp (s (q + 15) 11) (D_X8_align s (s (q + 16) x1.toNatClampNeg)))) (s (q + 16) x1.toNatClampNeg) 8))) (q + 15) 11 ((D_X11_roundUp (s (q + 15) 11) (D_X8_align s (s (q + 16) x1.toNatClampNeg))) + (D_X3_wordsAhead q (up s (q + 17) (s (q + 16) x1.toNatClampNeg).toNatClampNeg (D_X11_roundUp (s (q + 15) 11) (D_X8_align s (s (q + 16) x1.toNatClampNeg)))) (s (q + 16) x1.toNatClampNeg) 8))))) from ((if_neg c0).trans ((if_neg c1).trans ((if_neg c2).trans rfl)))), ((up_f l15f11).trans ((up_f l15f12).trans ((up_a l18).trans ((up_a l17).trans rfl))))⟩
theorem fwr_X3_placeSections_114 {q : Nat} {s : Sg} {k j : Nat} (l15f11 : k ≠ q + 15 ∨ j ≠ 11) (l15f12 : k ≠ q + 15 ∨ j ≠ 12) (l17 : k ≠ q + 17) (l18 : k ≠ q + 18) : (R_X3_placeSections_114 q s) k j = s k j := by
  rw [show (R_X3_placeSections_114 q s) = s from rfl]
  first | done | exact rfl
theorem fw_X3_placeSections {q : Nat} {s : Sg} {k j : Nat} (l15f11 : k ≠ q + 15 ∨ j ≠ 11) (l15f12 : k ≠ q + 15 ∨ j ≠ 12) (l17 : k ≠ q + 17) (l18 : k ≠ q + 18) : (D_X3_placeSections q s) k j = s k j := by
  rw [show (D_X3_placeSections q s) = (R_X3_placeSections_114 q ((itr (uc2 (B_X3_placeSections_12 q)) BIG (0, (up (up s (q + 15) 11 1) (q + 15) 12 0))).2)) from rfl]
  first | done | exact ((fwr_X3_placeSections_114 l15f11 l15f12 l17 l18).trans ((itr_inv2 (B := B_X3_placeSections_12 q) (I := fun z1 zs => zs k j = (up (up s (q + 15) 11 1) (q + 15) 12 0) k j) (fun z1 zs hz => exq2 (fwb_X3_placeSections_12 l15f11 l15f12 l17 l18) hz) BIG 0 (up (up s (q + 15) 11 1) (q + 15) 12 0) rfl).trans ((up_f l15f12).trans ((up_f l15f11).trans rfl))))
-- LinkHarbour$Reaching.hasCommon
noncomputable def D_X7_hasCommon (q : Nat) (s : Sg) (a1 : Int32) : Int32 := (if (D_X11_isName a1) = 0 then 0 else (if (D_X11_hasBit (s (q + 12) 6) a1) = 0 then 0 else 1))
theorem m_X7_hasCommon (hP : WOK b w H0) {q : Nat} (hq : q = 38 ∨ q = 60) {s : Sg} {a1 : Int32} : Rx sc g_X7_hasCommon 1 ((0, [(0, .ref (b + (q + 12))), (1, .int a1)], [])) (wd b w wl H0 s, kn) (some (.int (D_X7_hasCommon q s a1))) (wd b w wl H0 s, kn) := by
  show Rx sc g_X7_hasCommon 1 (0, [(0, .ref (b + (q + 12))), (1, .int a1)], []) (wd b w wl H0 s, kn) (some (.int (D_X7_hasCommon q s a1))) (wd b w wl H0 s, kn)
  refine rx_k 1 (1, [(0, .ref (b + (q + 12))), (1, .int a1)], [.int a1]) (fun _ _ => rfl) ?_
  refine rx_inv rfl rfl (rc_X11_isName) rfl rfl rfl rfl rfl rfl ?_
  by_cases c0 : (D_X11_isName a1) = 0
  · refine rx_ifT rfl (bt c0) ?_
    refine rx_k 1 (23, [(0, .ref (b + (q + 12))), (1, .int a1)], [.int 0]) (fun _ _ => rfl) ?_
    rw [(show (D_X7_hasCommon q s a1) = 0 from ((if_pos c0).trans rfl))]
    exact rx_ri rfl
  · refine rx_ifF rfl (bf c0) rfl ?_
    refine rx_k 1 (8, [(0, .ref (b + (q + 12))), (1, .int a1)], [.ref (b + (q + 12))]) (fun _ _ => rfl) ?_
    refine rx_getf rfl rfl (wl_12 hP hq) rfl ?_
    refine rx_k 1 (12, [(0, .ref (b + (q + 12))), (1, .int a1)], [.int a1, .int (s (q + 12) 6)]) (fun _ _ => rfl) ?_
    refine rx_inv rfl rfl (rc_X11_hasBit) rfl rfl rfl rfl rfl rfl ?_
    by_cases c1 : (D_X11_hasBit (s (q + 12) 6) a1) = 0
    · refine rx_ifT rfl (bt c1) ?_
      refine rx_k 1 (23, [(0, .ref (b + (q + 12))), (1, .int a1)], [.int 0]) (fun _ _ => rfl) ?_
      rw [(show (D_X7_hasCommon q s a1) = 0 from ((if_neg c0).trans ((if_pos c1).trans rfl)))]
      exact rx_ri rfl
    · refine rx_ifF rfl (bf c1) rfl ?_
      refine rx_k 2 (23, [(0, .ref (b + (q + 12))), (1, .int a1)], [.int 1]) (fun _ _ => rfl) ?_
      rw [(show (D_X7_hasCommon q s a1) = 1 from ((if_neg c0).trans ((if_neg c1).trans rfl)))]
      exact rx_ri rfl
theorem bz_X7_hasCommon {q : Nat} {s : Sg} {a1 : Int32} : bz (D_X7_hasCommon q s a1) = true := by
  by_cases c0 : (D_X11_isName a1) = 0
  · rw [show (D_X7_hasCommon q s a1) = 0 from ((if_pos c0).trans rfl)]
    exact rfl
  · by_cases c1 : (D_X11_hasBit (s (q + 12) 6) a1) = 0
    · rw [show (D_X7_hasCommon q s a1) = 0 from ((if_neg c0).trans ((if_pos c1).trans rfl))]
      exact rfl
    · rw [show (D_X7_hasCommon q s a1) = 1 from ((if_neg c0).trans ((if_neg c1).trans rfl))]
      exact rfl
theorem rc_X7_hasCommon (hP : WOK b w H0) {q : Nat} (hq : q = 38 ∨ q = 60) {s : Sg} {a1 : Int32} : Rc sc 2 106 [.ref (b + (q + 12)), .int a1] (wd b w wl H0 s, kn) (some (.int (D_X7_hasCommon q s a1))) (wd b w wl H0 s, kn) := rx_mc (m_X7_hasCommon hP hq) rfl (bz_X7_hasCommon ..) (Nat.ble_eq_true_of_le (Nat.le_refl _)) (Nat.ble_eq_true_of_le (Nat.le_refl _))
-- LinkHarbour$Settling.align
noncomputable def D_X9_align (q : Nat) (s : Sg) (a1 : Int32) : Int32 := (if (D_X11_isName a1) = 0 then 1 else (s (q + 11) a1.toNatClampNeg))
theorem m_X9_align (hP : WOK b w H0) {q : Nat} (hq : q = 38 ∨ q = 60) {s : Sg} {a1 : Int32} : Rx sc g_X9_align 1 ((0, [(0, .ref (b + (q + 5))), (1, .int a1)], [])) (wd b w wl H0 s, kn) (some (.int (D_X9_align q s a1))) (wd b w wl H0 s, kn) := by
  show Rx sc g_X9_align 1 (0, [(0, .ref (b + (q + 5))), (1, .int a1)], []) (wd b w wl H0 s, kn) (some (.int (D_X9_align q s a1))) (wd b w wl H0 s, kn)
  refine rx_k 1 (1, [(0, .ref (b + (q + 5))), (1, .int a1)], [.int a1]) (fun _ _ => rfl) ?_
  refine rx_inv rfl rfl (rc_X11_isName) rfl rfl rfl rfl rfl rfl ?_
  by_cases c0 : (D_X11_isName a1) = 0
  · refine rx_ifT rfl (bt c0) ?_
    refine rx_k 1 (17, [(0, .ref (b + (q + 5))), (1, .int a1)], [.int 1]) (fun _ _ => rfl) ?_
    rw [(show (D_X9_align q s a1) = 1 from ((if_pos c0).trans rfl))]
    exact rx_ri rfl
  · refine rx_ifF rfl (bf c0) rfl ?_
    refine rx_k 1 (8, [(0, .ref (b + (q + 5))), (1, .int a1)], [.ref (b + (q + 5))]) (fun _ _ => rfl) ?_
    refine rx_getf rfl rfl (wl_5 hP hq) rfl ?_
    refine rx_k 1 (12, [(0, .ref (b + (q + 5))), (1, .int a1)], [.int a1, .ref (b + (q + 11))]) (fun _ _ => rfl) ?_
    refine rx_ild rfl rfl (wl_11 hP hq) (ar_at (rg_isName c0)) ?_
    refine rx_k 1 (17, [(0, .ref (b + (q + 5))), (1, .int a1)], [.int (s (q + 11) a1.toNatClampNeg)]) (fun _ _ => rfl) ?_
    rw [(show (D_X9_align q s a1) = (s (q + 11) a1.toNatClampNeg) from ((if_neg c0).trans rfl))]
    exact rx_ri rfl
theorem rc_X9_align (hP : WOK b w H0) {q : Nat} (hq : q = 38 ∨ q = 60) {s : Sg} {a1 : Int32} : Rc sc 2 146 [.ref (b + (q + 5)), .int a1] (wd b w wl H0 s, kn) (some (.int (D_X9_align q s a1))) (wd b w wl H0 s, kn) := rx_mc (m_X9_align hP hq) rfl rfl (Nat.ble_eq_true_of_le (Nat.le_refl _)) (Nat.ble_eq_true_of_le (Nat.le_refl _))
-- LinkHarbour$Settling.size
noncomputable def D_X9_size (q : Nat) (s : Sg) (a1 : Int32) : Int32 := (if (D_X11_isName a1) = 0 then 0 else (s (q + 10) a1.toNatClampNeg))
theorem m_X9_size (hP : WOK b w H0) {q : Nat} (hq : q = 38 ∨ q = 60) {s : Sg} {a1 : Int32} : Rx sc g_X9_size 1 ((0, [(0, .ref (b + (q + 5))), (1, .int a1)], [])) (wd b w wl H0 s, kn) (some (.int (D_X9_size q s a1))) (wd b w wl H0 s, kn) := by
  show Rx sc g_X9_size 1 (0, [(0, .ref (b + (q + 5))), (1, .int a1)], []) (wd b w wl H0 s, kn) (some (.int (D_X9_size q s a1))) (wd b w wl H0 s, kn)
  refine rx_k 1 (1, [(0, .ref (b + (q + 5))), (1, .int a1)], [.int a1]) (fun _ _ => rfl) ?_
  refine rx_inv rfl rfl (rc_X11_isName) rfl rfl rfl rfl rfl rfl ?_
  by_cases c0 : (D_X11_isName a1) = 0
  · refine rx_ifT rfl (bt c0) ?_
    refine rx_k 1 (17, [(0, .ref (b + (q + 5))), (1, .int a1)], [.int 0]) (fun _ _ => rfl) ?_
    rw [(show (D_X9_size q s a1) = 0 from ((if_pos c0).trans rfl))]
    exact rx_ri rfl
  · refine rx_ifF rfl (bf c0) rfl ?_
    refine rx_k 1 (8, [(0, .ref (b + (q + 5))), (1, .int a1)], [.ref (b + (q + 5))]) (fun _ _ => rfl) ?_
    refine rx_getf rfl rfl (wl_5 hP hq) rfl ?_
    refine rx_k 1 (12, [(0, .ref (b + (q + 5))), (1, .int a1)], [.int a1, .ref (b + (q + 10))]) (fun _ _ => rfl) ?_
    refine rx_ild rfl rfl (wl_10 hP hq) (ar_at (rg_isName c0)) ?_
    refine rx_k 1 (17, [(0, .ref (b + (q + 5))), (1, .int a1)], [.int (s (q + 10) a1.toNatClampNeg)]) (fun _ _ => rfl) ?_
    rw [(show (D_X9_size q s a1) = (s (q + 10) a1.toNatClampNeg) from ((if_neg c0).trans rfl))]
    exact rx_ri rfl
theorem rc_X9_size (hP : WOK b w H0) {q : Nat} (hq : q = 38 ∨ q = 60) {s : Sg} {a1 : Int32} : Rc sc 2 145 [.ref (b + (q + 5)), .int a1] (wd b w wl H0 s, kn) (some (.int (D_X9_size q s a1))) (wd b w wl H0 s, kn) := rx_mc (m_X9_size hP hq) rfl rfl (Nat.ble_eq_true_of_le (Nat.le_refl _)) (Nat.ble_eq_true_of_le (Nat.le_refl _))
-- LinkHarbour$Layout.placeCommons
def fr_X3_placeCommons_2 (b w : Nat) (q : Nat) (x1 : Int32) : EF := (2, [(0, .ref (b + (q + 15))), (1, .int x1)], [])
def fe_X3_placeCommons_2 (b w : Nat) (q : Nat) (x1 : Int32) : EF := (92, [], [])
noncomputable def B_X3_placeCommons_2 (q : Nat) (x1 : Int32) (s : Sg) : Bool × (Int32 × Sg) := (if 20 ≤ x1 then (false, (x1, s)) else (if (D_X7_hasCommon q s x1) = 0 then (true, ((x1 + 1), (up s (q + 21) x1.toNatClampNeg (-1)))) else (true, ((x1 + 1), (up (up (up s (q + 21) x1.toNatClampNeg (D_X11_roundUp (s (q + 15) 11) (D_X9_align q s x1))) (q + 15) 12 ((s (q + 15) 12) + (D_X9_size q (up s (q + 21) x1.toNatClampNeg (D_X11_roundUp (s (q + 15) 11) (D_X9_align q s x1))) x1))) (q + 15) 11 ((D_X11_roundUp (s (q + 15) 11) (D_X9_align q s x1)) + (D_X9_size q (up (up s (q + 21) x1.toNatClampNeg (D_X11_roundUp (s (q + 15) 11) (D_X9_align q s x1))) (q + 15) 12 ((s (q + 15) 12) + (D_X9_size q (up s (q + 21) x1.toNatClampNeg (D_X11_roundUp (s (q + 15) 11) (D_X9_align q s x1))) x1))) x1)))))))
theorem b_X3_placeCommons_2 (hP : WOK b w H0) {q : Nat} (hq : q = 38 ∨ q = 60) {s : Sg} {x1 : Int32} (o : Option Value) (h' : EH) (hN : NN s) (hv : 0 ≤ x1.toInt) (hc : ∀ (t1 : Int32) (ts : Sg), (B_X3_placeCommons_2 q x1 s) = (true, (t1, ts)) → x1.toInt < 2147483647 → t1 = x1 + 1 → Rx sc g_X3_placeCommons 2 (fr_X3_placeCommons_2 b w q t1) (wd b w wl H0 ts, kn) o h') (he : ∀ (t1 : Int32) (ts : Sg), (B_X3_placeCommons_2 q x1 s) = (false, (t1, ts)) → Rx sc g_X3_placeCommons 2 (fe_X3_placeCommons_2 b w q t1) (wd b w wl H0 ts, kn) o h') : Rx sc g_X3_placeCommons 2 (fr_X3_placeCommons_2 b w q x1) (wd b w wl H0 s, kn) o h' := by
  show Rx sc g_X3_placeCommons 2 (2, [(0, .ref (b + (q + 15))), (1, .int x1)], []) (wd b w wl H0 s, kn) o h'
  refine rx_k 2 (5, [(0, .ref (b + (q + 15))), (1, .int x1)], [.int 20, .int x1]) (fun _ _ => rfl) ?_
  by_cases c0 : 20 ≤ x1
  · refine rx_icT rfl (bt c0) ?_
    exact rx_lo am_X3_placeCommons (lo := []) (fun _ h => absurd h List.not_mem_nil) rfl (he _ _ (show (B_X3_placeCommons_2 q x1 s) = (false, (x1, s)) from ((if_pos c0).trans rfl)))
  · refine rx_icF rfl (bf c0) rfl ?_
    refine rx_k 1 (9, [(0, .ref (b + (q + 15))), (1, .int x1)], [.ref (b + (q + 15))]) (fun _ _ => rfl) ?_
    refine rx_getf rfl rfl (wl_15 hP hq) rfl ?_
    refine rx_k 1 (13, [(0, .ref (b + (q + 15))), (1, .int x1)], [.int x1, .ref (b + (q + 12))]) (fun _ _ => rfl) ?_
    refine rx_inv rfl rfl (rc_X7_hasCommon hP hq) rfl rfl rfl (q_recv (wl_12 hP hq)) rfl rfl ?_
    by_cases c1 : (D_X7_hasCommon q s x1) = 0
    · refine rx_ifT rfl (bt c1) ?_
      refine rx_k 1 (80, [(0, .ref (b + (q + 15))), (1, .int x1)], [.ref (b + (q + 15))]) (fun _ _ => rfl) ?_
      refine rx_getf rfl rfl (wl_15 hP hq) rfl ?_
      refine rx_k 2 (85, [(0, .ref (b + (q + 15))), (1, .int x1)], [.int (-1), .int x1, .ref (b + (q + 21))]) (fun _ _ => rfl) ?_
      refine rx_ist rfl rfl (wl_21 hP hq) rfl (ar_at (rg_c hv c0 (m := 20) (n := 20) rfl)) (wz_21 hP hq (rg_c hv c0 (m := 20) (n := 20) rfl)) ?_
      refine rx_k 2 (2, [(1, .int (x1 + 1)), (0, .ref (b + (q + 15)))], []) (fun _ _ => rfl) ?_
      refine rx_lo am_X3_placeCommons (lo := [(0, .ref (b + (q + 15))), (1, .int (x1 + 1))]) (List.forall_mem_cons.mpr ⟨List.mem_of_getElem? (i := 1) rfl, (List.forall_mem_cons.mpr ⟨List.mem_of_getElem? (i := 0) rfl, (fun _ h => absurd h List.not_mem_nil)⟩)⟩) rfl (hc _ _ (show (B_X3_placeCommons_2 q x1 s) = (true, ((x1 + 1), (up s (q + 21) x1.toNatClampNeg (-1)))) from ((if_neg c0).trans ((if_pos c1).trans rfl))) (lt_nle c0) rfl)
    · refine rx_ifF rfl (bf c1) rfl ?_
      refine rx_k 1 (20, [(0, .ref (b + (q + 15))), (1, .int x1)], [.ref (b + (q + 15))]) (fun _ _ => rfl) ?_
      refine rx_getf rfl rfl (wl_15 hP hq) rfl ?_
      refine rx_k 2 (25, [(0, .ref (b + (q + 15))), (1, .int x1)], [.ref (b + (q + 15)), .int x1, .ref (b + (q + 21))]) (fun _ _ => rfl) ?_
      refine rx_getf rfl rfl (wl_15 hP hq) rfl ?_
      refine rx_k 1 (29, [(0, .ref (b + (q + 15))), (1, .int x1)], [.ref (b + (q + 15)), .int (s (q + 15) 11), .int x1, .ref (b + (q + 21))]) (fun _ _ => rfl) ?_
      refine rx_getf rfl rfl (wl_15 hP hq) rfl ?_
      refine rx_k 1 (33, [(0, .ref (b + (q + 15))), (1, .int x1)], [.int x1, .ref (b + (q + 5)), .int (s (q + 15) 11), .int x1, .ref (b + (q + 21))]) (fun _ _ => rfl) ?_
      refine rx_inv rfl rfl (rc_X9_align hP hq) rfl rfl rfl (q_recv (wl_5 hP hq)) rfl rfl ?_
      refine rx_inv rfl rfl (rc_X11_roundUp) rfl rfl rfl rfl rfl rfl ?_
      refine rx_ist rfl rfl (wl_21 hP hq) rfl (ar_at (rg_c hv c0 (m := 20) (n := 20) rfl)) (wz_21 hP hq (rg_c hv c0 (m := 20) (n := 20) rfl)) ?_
      refine rx_k 2 (42, [(0, .ref (b + (q + 15))), (1, .int x1)], [.ref (b + (q + 15)), .ref (b + (q + 15))]) (fun _ _ => rfl) ?_
      refine rx_getf (v := .int (s (q + 15) 12)) rfl rfl (wl_15 hP hq) (congrArg (fun z => some (Value.int z)) (rd_nk (by omega))) ?_
      refine rx_k 1 (46, [(0, .ref (b + (q + 15))), (1, .int x1)], [.ref (b + (q + 15)), .int (s (q + 15) 12), .ref (b + (q + 15))]) (fun _ _ => rfl) ?_
      refine rx_getf rfl rfl (wl_15 hP hq) rfl ?_
      refine rx_k 1 (50, [(0, .ref (b + (q + 15))), (1, .int x1)], [.int x1, .ref (b + (q + 5)), .int (s (q + 15) 12), .ref (b + (q + 15))]) (fun _ _ => rfl) ?_
      refine rx_inv rfl rfl (rc_X9_size hP hq) rfl rfl rfl (q_recv (wl_5 hP hq)) rfl rfl ?_
      refine rx_k 1 (54, [(0, .ref (b + (q + 15))), (1, .int x1)], [.int ((s (q + 15) 12) + (D_X9_size q (up s (q + 21) x1.toNatClampNeg (D_X11_roundUp (s (q + 15) 11) (D_X9_align q s x1))) x1)), .ref (b + (q + 15))]) (fun _ _ => rfl) ?_
      refine rx_putf rfl rfl (wl_15 hP hq) rfl (wz_15_12 hP hq) ?_
      refine rx_k 2 (59, [(0, .ref (b + (q + 15))), (1, .int x1)], [.ref (b + (q + 15)), .ref (b + (q + 15))]) (fun _ _ => rfl) ?_
      refine rx_getf rfl rfl (wl_15 hP hq) rfl ?_
      refine rx_k 1 (63, [(0, .ref (b + (q + 15))), (1, .int x1)], [.int x1, .ref (b + (q + 21)), .ref (b + (q + 15))]) (fun _ _ => rfl) ?_
      refine rx_ild (x := (D_X11_roundUp (s (q + 15) 11) (D_X9_align q s x1))) rfl rfl (wl_21 hP hq) ((ar_at (rg_c hv c0 (m := 20) (n := 20) rfl)).trans (congrArg (fun z => some (Value.int z)) ((rd_nk (by omega)).trans rd_eq))) ?_
      refine rx_k 1 (65, [(0, .ref (b + (q + 15))), (1, .int x1)], [.ref (b + (q + 15)), .int (D_X11_roundUp (s (q + 15) 11) (D_X9_align q s x1)), .ref (b + (q + 15))]) (fun _ _ => rfl) ?_
      refine rx_getf rfl rfl (wl_15 hP hq) rfl ?_
      refine rx_k 1 (69, [(0, .ref (b + (q + 15))), (1, .int x1)], [.int x1, .ref (b + (q + 5)), .int (D_X11_roundUp (s (q + 15) 11) (D_X9_align q s x1)), .ref (b + (q + 15))]) (fun _ _ => rfl) ?_
      refine rx_inv rfl rfl (rc_X9_size hP hq) rfl rfl rfl (q_recv (wl_5 hP hq)) rfl rfl ?_
      refine rx_k 1 (73, [(0, .ref (b + (q + 15))), (1, .int x1)], [.int ((D_X11_roundUp (s (q + 15) 11) (D_X9_align q s x1)) + (D_X9_size q (up (up s (q + 21) x1.toNatClampNeg (D_X11_roundUp (s (q + 15) 11) (D_X9_align q s x1))) (q + 15) 12 ((s (q + 15) 12) + (D_X9_size q (up s (q + 21) x1.toNatClampNeg (D_X11_roundUp (s (q + 15) 11) (D_X9_align q s x1))) x1))) x1)), .ref (b + (q + 15))]) (fun _ _ => rfl) ?_
      refine rx_putf rfl rfl (wl_15 hP hq) rfl (wz_15_11 hP hq) ?_
      refine rx_k 3 (2, [(1, .int (x1 + 1)), (0, .ref (b + (q + 15)))], []) (fun _ _ => rfl) ?_
      refine rx_lo am_X3_placeCommons (lo := [(0, .ref (b + (q + 15))), (1, .int (x1 + 1))]) (List.forall_mem_cons.mpr ⟨List.mem_of_getElem? (i := 1) rfl, (List.forall_mem_cons.mpr ⟨List.mem_of_getElem? (i := 0) rfl, (fun _ h => absurd h List.not_mem_nil)⟩)⟩) rfl (hc _ _ (show (B_X3_placeCommons_2 q x1 s) = (true, ((x1 + 1), (up (up (up s (q + 21) x1.toNatClampNeg (D_X11_roundUp (s (q + 15) 11) (D_X9_align q s x1))) (q + 15) 12 ((s (q + 15) 12) + (D_X9_size q (up s (q + 21) x1.toNatClampNeg (D_X11_roundUp (s (q + 15) 11) (D_X9_align q s x1))) x1))) (q + 15) 11 ((D_X11_roundUp (s (q + 15) 11) (D_X9_align q s x1)) + (D_X9_size q (up (up s (q + 21) x1.toNatClampNeg (D_X11_roundUp (s (q + 15) 11) (D_X9_align q s x1))) (q + 15) 12 ((s (q + 15) 12) + (D_X9_size q (up s (q + 21) x1.toNatClampNeg (D_X11_roundUp (s (q + 15) 11) (D_X9_align q s x1))) x1))) x1))))) from ((if_neg c0).trans ((if_neg c1).trans rfl))) (lt_nle c0) rfl)
theorem nb_X3_placeCommons_2 {q : Nat} (hq : q = 38 ∨ q = 60) {x1 : Int32} {s : Sg} (hN : NN s) : ∃ (f : Bool) (t1 : Int32) (ts : Sg), (B_X3_placeCommons_2 q x1 s) = (f, (t1, ts)) ∧ NN ts := by
  by_cases c0 : 20 ≤ x1
  · exact ⟨_, _, _, (show (B_X3_placeCommons_2 q x1 s) = (false, (x1, s)) from ((if_pos c0).trans rfl)), hN⟩
  · by_cases c1 : (D_X7_hasCommon q s x1) = 0
    · exact ⟨_, _, _, (show (B_X3_placeCommons_2 q x1 s) = (true, ((x1 + 1), (up s (q + 21) x1.toNatClampNeg (-1)))) from ((if_neg c0).trans ((if_pos c1).trans rfl))), (nn_0 (by rcases hq with rfl | rfl <;> rfl) hN)⟩
    · exact ⟨_, _, _, (show (B_X3_placeCommons_2 q x1 s) = (true, ((x1 + 1), (up (up (up s (q + 21) x1.toNatClampNeg (D_X11_roundUp (s (q + 15) 11) (D_X9_align q s x1))) (q + 15) 12 ((s (q + 15) 12) + (D_X9_size q (up s (q + 21) x1.toNatClampNeg (D_X11_roundUp (s (q + 15) 11) (D_X9_align q s x1))) x1))) (q + 15) 11 ((D_X11_roundUp (s (q + 15) 11) (D_X9_align q s x1)) + (D_X9_size q (up (up s (q + 21) x1.toNatClampNeg (D_X11_roundUp (s (q + 15) 11) (D_X9_align q s x1))) (q + 15) 12 ((s (q + 15) 12) + (D_X9_size q (up s (q + 21) x1.toNatClampNeg (D_X11_roundUp (s (q + 15) 11) (D_X9_align q s x1))) x1))) x1))))) from ((if_neg c0).trans ((if_neg c1).trans rfl))), (nn_f (by rcases hq with rfl | rfl <;> rfl) (nn_f (by rcases hq with rfl | rfl <;> rfl) (nn_0 (by rcases hq with rfl | rfl <;> rfl) hN)))⟩
noncomputable def R_X3_placeCommons_92 (q : Nat) (s : Sg) : Sg := s
theorem r_X3_placeCommons_92 (hP : WOK b w H0) {q : Nat} (hq : q = 38 ∨ q = 60) {s : Sg} (hN : NN s) : Rx sc g_X3_placeCommons 2 ((92, [], [])) (wd b w wl H0 s, kn) none (wd b w wl H0 (R_X3_placeCommons_92 q s), kn) := by
  show Rx sc g_X3_placeCommons 2 (92, [], []) (wd b w wl H0 s, kn) none (wd b w wl H0 (R_X3_placeCommons_92 q s), kn)
  rw [(show (R_X3_placeCommons_92 q s) = s from rfl)]
  exact rx_rv rfl
theorem nr_X3_placeCommons_92 {q : Nat} (hq : q = 38 ∨ q = 60) {s : Sg} (hN : NN s) : NN ((R_X3_placeCommons_92 q s)) := by
  rw [show (R_X3_placeCommons_92 q s) = s from rfl]
  exact hN
noncomputable def D_X3_placeCommons (q : Nat) (s : Sg) : Sg := (R_X3_placeCommons_92 q ((itr (uc2 (B_X3_placeCommons_2 q)) BIG (0, s)).2))
theorem m_X3_placeCommons (hP : WOK b w H0) {q : Nat} (hq : q = 38 ∨ q = 60) {s : Sg} (hN : NN s) : Rx sc g_X3_placeCommons 2 ((0, [(0, .ref (b + (q + 15)))], [])) (wd b w wl H0 s, kn) none (wd b w wl H0 (D_X3_placeCommons q s), kn) := by
  show Rx sc g_X3_placeCommons 2 (0, [(0, .ref (b + (q + 15)))], []) (wd b w wl H0 s, kn) none (wd b w wl H0 (D_X3_placeCommons q s), kn)
  refine rx_k 2 (2, [(1, .int 0), (0, .ref (b + (q + 15)))], []) (fun _ _ => rfl) ?_
  refine rx_lo am_X3_placeCommons (lo := [(0, .ref (b + (q + 15))), (1, .int 0)]) (List.forall_mem_cons.mpr ⟨List.mem_of_getElem? (i := 1) rfl, (List.forall_mem_cons.mpr ⟨List.mem_of_getElem? (i := 0) rfl, (fun _ h => absurd h List.not_mem_nil)⟩)⟩) rfl ?_
  refine rx_loop2s (B := B_X3_placeCommons_2 q) (fr := (fr_X3_placeCommons_2 b w q)) (E := (fe_X3_placeCommons_2 b w q)) (I := fun z1 zs => NN zs) (fun z1 zs oo hh9 hI9 hv9 hc9 he9 => b_X3_placeCommons_2 hP hq oo hh9 hI9 hv9 hc9 he9) (fun z1 zs hz => nb_X3_placeCommons_2 hq hz) BIG 0 s _ _ hN (by decide : (0 : Int) ≤ (0 : Int32).toInt) (le_enough (by decide : (0 : Int) ≤ (0 : Int32).toInt)) ?_
  rw [(show (D_X3_placeCommons q s) = (R_X3_placeCommons_92 q ((itr (uc2 (B_X3_placeCommons_2 q)) BIG (0, s)).2)) from rfl)]
  exact r_X3_placeCommons_92 hP hq (itr_inv2 (B := B_X3_placeCommons_2 q) (I := fun z1 zs => NN zs) (fun z1 zs hz => nb_X3_placeCommons_2 hq hz) BIG 0 s hN)
theorem rc_X3_placeCommons (hP : WOK b w H0) {q : Nat} (hq : q = 38 ∨ q = 60) {s : Sg} (hN : NN s) : Rc sc 3 35 [.ref (b + (q + 15))] (wd b w wl H0 s, kn) none (wd b w wl H0 (D_X3_placeCommons q s), kn) := rx_mc (m_X3_placeCommons hP hq hN) rfl rfl (Nat.ble_eq_true_of_le (Nat.le_refl _)) (Nat.ble_eq_true_of_le (Nat.le_refl _))
theorem nn_X3_placeCommons {q : Nat} (hq : q = 38 ∨ q = 60) {s : Sg} (hN : NN s) : NN (D_X3_placeCommons q s) := by
  rw [show (D_X3_placeCommons q s) = (R_X3_placeCommons_92 q ((itr (uc2 (B_X3_placeCommons_2 q)) BIG (0, s)).2)) from rfl]
  exact (nr_X3_placeCommons_92 hq (itr_inv2 (B := B_X3_placeCommons_2 q) (I := fun z1 zs => NN zs) (fun z1 zs hz => nb_X3_placeCommons_2 hq hz) BIG 0 s hN))
theorem fwb_X3_placeCommons_2 {q : Nat} {x1 : Int32} {s : Sg} {k j : Nat} (l15f11 : k ≠ q + 15 ∨ j ≠ 11) (l15f12 : k ≠ q + 15 ∨ j ≠ 12) (l21 : k ≠ q + 21) : ∃ (f : Bool) (t1 : Int32) (ts : Sg), (B_X3_placeCommons_2 q x1 s) = (f, (t1, ts)) ∧ ts k j = s k j := by
  by_cases c0 : 20 ≤ x1
  · exact ⟨_, _, _, (show (B_X3_placeCommons_2 q x1 s) = (false, (x1, s)) from ((if_pos c0).trans rfl)), rfl⟩
  · by_cases c1 : (D_X7_hasCommon q s x1) = 0
    · exact ⟨_, _, _, (show (B_X3_placeCommons_2 q x1 s) = (true, ((x1 + 1), (up s (q + 21) x1.toNatClampNeg (-1)))) from ((if_neg c0).trans ((if_pos c1).trans rfl))), ((up_a l21).trans rfl)⟩
    · exact ⟨_, _, _, (show (B_X3_placeCommons_2 q x1 s) = (true, ((x1 + 1), (up (up (up s (q + 21) x1.toNatClampNeg (D_X11_roundUp (s (q + 15) 11) (D_X9_align q s x1))) (q + 15) 12 ((s (q + 15) 12) + (D_X9_size q (up s (q + 21) x1.toNatClampNeg (D_X11_roundUp (s (q + 15) 11) (D_X9_align q s x1))) x1))) (q + 15) 11 ((D_X11_roundUp (s (q + 15) 11) (D_X9_align q s x1)) + (D_X9_size q (up (up s (q + 21) x1.toNatClampNeg (D_X11_roundUp (s (q + 15) 11) (D_X9_align q s x1))) (q + 15) 12 ((s (q + 15) 12) + (D_X9_size q (up s (q + 21) x1.toNatClampNeg (D_X11_roundUp (s (q + 15) 11) (D_X9_align q s x1))) x1))) x1))))) from ((if_neg c0).trans ((if_neg c1).trans rfl))), ((up_f l15f11).trans ((up_f l15f12).trans ((up_a l21).trans rfl)))⟩
theorem fwr_X3_placeCommons_92 {q : Nat} {s : Sg} {k j : Nat} (l15f11 : k ≠ q + 15 ∨ j ≠ 11) (l15f12 : k ≠ q + 15 ∨ j ≠ 12) (l21 : k ≠ q + 21) : (R_X3_placeCommons_92 q s) k j = s k j := by
  rw [show (R_X3_placeCommons_92 q s) = s from rfl]
  first | done | exact rfl
theorem fw_X3_placeCommons {q : Nat} {s : Sg} {k j : Nat} (l15f11 : k ≠ q + 15 ∨ j ≠ 11) (l15f12 : k ≠ q + 15 ∨ j ≠ 12) (l21 : k ≠ q + 21) : (D_X3_placeCommons q s) k j = s k j := by
  rw [show (D_X3_placeCommons q s) = (R_X3_placeCommons_92 q ((itr (uc2 (B_X3_placeCommons_2 q)) BIG (0, s)).2)) from rfl]
  first | done | exact ((fwr_X3_placeCommons_92 l15f11 l15f12 l21).trans ((itr_inv2 (B := B_X3_placeCommons_2 q) (I := fun z1 zs => zs k j = s k j) (fun z1 zs hz => exq2 (fwb_X3_placeCommons_2 l15f11 l15f12 l21) hz) BIG 0 s rfl).trans rfl))
-- LinkHarbour$Settling.sectionOf
noncomputable def D_X9_sectionOf (q : Nat) (s : Sg) (a1 : Int32) : Int32 := (if (D_X11_isName a1) = 0 then (-1) else (s (q + 8) a1.toNatClampNeg))
theorem m_X9_sectionOf (hP : WOK b w H0) {q : Nat} (hq : q = 38 ∨ q = 60) {s : Sg} {a1 : Int32} : Rx sc g_X9_sectionOf 1 ((0, [(0, .ref (b + (q + 5))), (1, .int a1)], [])) (wd b w wl H0 s, kn) (some (.int (D_X9_sectionOf q s a1))) (wd b w wl H0 s, kn) := by
  show Rx sc g_X9_sectionOf 1 (0, [(0, .ref (b + (q + 5))), (1, .int a1)], []) (wd b w wl H0 s, kn) (some (.int (D_X9_sectionOf q s a1))) (wd b w wl H0 s, kn)
  refine rx_k 1 (1, [(0, .ref (b + (q + 5))), (1, .int a1)], [.int a1]) (fun _ _ => rfl) ?_
  refine rx_inv rfl rfl (rc_X11_isName) rfl rfl rfl rfl rfl rfl ?_
  by_cases c0 : (D_X11_isName a1) = 0
  · refine rx_ifT rfl (bt c0) ?_
    refine rx_k 1 (17, [(0, .ref (b + (q + 5))), (1, .int a1)], [.int (-1)]) (fun _ _ => rfl) ?_
    rw [(show (D_X9_sectionOf q s a1) = (-1) from ((if_pos c0).trans rfl))]
    exact rx_ri rfl
  · refine rx_ifF rfl (bf c0) rfl ?_
    refine rx_k 1 (8, [(0, .ref (b + (q + 5))), (1, .int a1)], [.ref (b + (q + 5))]) (fun _ _ => rfl) ?_
    refine rx_getf rfl rfl (wl_5 hP hq) rfl ?_
    refine rx_k 1 (12, [(0, .ref (b + (q + 5))), (1, .int a1)], [.int a1, .ref (b + (q + 8))]) (fun _ _ => rfl) ?_
    refine rx_ild rfl rfl (wl_8 hP hq) (ar_at (rg_isName c0)) ?_
    refine rx_k 1 (17, [(0, .ref (b + (q + 5))), (1, .int a1)], [.int (s (q + 8) a1.toNatClampNeg)]) (fun _ _ => rfl) ?_
    rw [(show (D_X9_sectionOf q s a1) = (s (q + 8) a1.toNatClampNeg) from ((if_neg c0).trans rfl))]
    exact rx_ri rfl
theorem rc_X9_sectionOf (hP : WOK b w H0) {q : Nat} (hq : q = 38 ∨ q = 60) {s : Sg} {a1 : Int32} : Rc sc 2 142 [.ref (b + (q + 5)), .int a1] (wd b w wl H0 s, kn) (some (.int (D_X9_sectionOf q s a1))) (wd b w wl H0 s, kn) := rx_mc (m_X9_sectionOf hP hq) rfl rfl (Nat.ble_eq_true_of_le (Nat.le_refl _)) (Nat.ble_eq_true_of_le (Nat.le_refl _))
-- LinkHarbour$Settling.placeOf
noncomputable def D_X9_placeOf (q : Nat) (s : Sg) (a1 : Int32) : Int32 := (if (D_X11_isName a1) = 0 then (-1) else (s (q + 9) a1.toNatClampNeg))
theorem m_X9_placeOf (hP : WOK b w H0) {q : Nat} (hq : q = 38 ∨ q = 60) {s : Sg} {a1 : Int32} : Rx sc g_X9_placeOf 1 ((0, [(0, .ref (b + (q + 5))), (1, .int a1)], [])) (wd b w wl H0 s, kn) (some (.int (D_X9_placeOf q s a1))) (wd b w wl H0 s, kn) := by
  show Rx sc g_X9_placeOf 1 (0, [(0, .ref (b + (q + 5))), (1, .int a1)], []) (wd b w wl H0 s, kn) (some (.int (D_X9_placeOf q s a1))) (wd b w wl H0 s, kn)
  refine rx_k 1 (1, [(0, .ref (b + (q + 5))), (1, .int a1)], [.int a1]) (fun _ _ => rfl) ?_
  refine rx_inv rfl rfl (rc_X11_isName) rfl rfl rfl rfl rfl rfl ?_
  by_cases c0 : (D_X11_isName a1) = 0
  · refine rx_ifT rfl (bt c0) ?_
    refine rx_k 1 (17, [(0, .ref (b + (q + 5))), (1, .int a1)], [.int (-1)]) (fun _ _ => rfl) ?_
    rw [(show (D_X9_placeOf q s a1) = (-1) from ((if_pos c0).trans rfl))]
    exact rx_ri rfl
  · refine rx_ifF rfl (bf c0) rfl ?_
    refine rx_k 1 (8, [(0, .ref (b + (q + 5))), (1, .int a1)], [.ref (b + (q + 5))]) (fun _ _ => rfl) ?_
    refine rx_getf rfl rfl (wl_5 hP hq) rfl ?_
    refine rx_k 1 (12, [(0, .ref (b + (q + 5))), (1, .int a1)], [.int a1, .ref (b + (q + 9))]) (fun _ _ => rfl) ?_
    refine rx_ild rfl rfl (wl_9 hP hq) (ar_at (rg_isName c0)) ?_
    refine rx_k 1 (17, [(0, .ref (b + (q + 5))), (1, .int a1)], [.int (s (q + 9) a1.toNatClampNeg)]) (fun _ _ => rfl) ?_
    rw [(show (D_X9_placeOf q s a1) = (s (q + 9) a1.toNatClampNeg) from ((if_neg c0).trans rfl))]
    exact rx_ri rfl
theorem rc_X9_placeOf (hP : WOK b w H0) {q : Nat} (hq : q = 38 ∨ q = 60) {s : Sg} {a1 : Int32} : Rc sc 2 143 [.ref (b + (q + 5)), .int a1] (wd b w wl H0 s, kn) (some (.int (D_X9_placeOf q s a1))) (wd b w wl H0 s, kn) := rx_mc (m_X9_placeOf hP hq) rfl rfl (Nat.ble_eq_true_of_le (Nat.le_refl _)) (Nat.ble_eq_true_of_le (Nat.le_refl _))
-- LinkHarbour$Layout.addressNames
def fr_X3_addressNames_2 (b w : Nat) (q : Nat) (x1 : Int32) : EF := (2, [(0, .ref (b + (q + 15))), (1, .int x1)], [])
def fe_X3_addressNames_2 (b w : Nat) (q : Nat) (x1 : Int32) : EF := (69, [], [])
noncomputable def B_X3_addressNames_2 (q : Nat) (x1 : Int32) (s : Sg) : Bool × (Int32 × Sg) := (if 20 ≤ x1 then (false, (x1, s)) else (if (D_X7_hasSection q s (D_X9_sectionOf q s x1)) = 0 then (true, ((x1 + 1), s)) else (if (D_X11_isIn (D_X9_sectionOf q s x1) 24) = 0 then (true, ((x1 + 1), s)) else (true, ((x1 + 1), (up s (q + 21) x1.toNatClampNeg ((s (q + 17) (D_X9_sectionOf q s x1).toNatClampNeg) + (D_X3_wordsAhead q s (D_X9_sectionOf q s x1) (D_X9_placeOf q s x1)))))))))
theorem b_X3_addressNames_2 (hP : WOK b w H0) {q : Nat} (hq : q = 38 ∨ q = 60) {s : Sg} {x1 : Int32} (o : Option Value) (h' : EH) (hN : NN s) (hv : 0 ≤ x1.toInt) (hc : ∀ (t1 : Int32) (ts : Sg), (B_X3_addressNames_2 q x1 s) = (true, (t1, ts)) → x1.toInt < 2147483647 → t1 = x1 + 1 → Rx sc g_X3_addressNames 3 (fr_X3_addressNames_2 b w q t1) (wd b w wl H0 ts, kn) o h') (he : ∀ (t1 : Int32) (ts : Sg), (B_X3_addressNames_2 q x1 s) = (false, (t1, ts)) → Rx sc g_X3_addressNames 3 (fe_X3_addressNames_2 b w q t1) (wd b w wl H0 ts, kn) o h') : Rx sc g_X3_addressNames 3 (fr_X3_addressNames_2 b w q x1) (wd b w wl H0 s, kn) o h' := by
  show Rx sc g_X3_addressNames 3 (2, [(0, .ref (b + (q + 15))), (1, .int x1)], []) (wd b w wl H0 s, kn) o h'
  refine rx_k 2 (5, [(0, .ref (b + (q + 15))), (1, .int x1)], [.int 20, .int x1]) (fun _ _ => rfl) ?_
  by_cases c0 : 20 ≤ x1
  · refine rx_icT rfl (bt c0) ?_
    exact rx_lo am_X3_addressNames (lo := []) (fun _ h => absurd h List.not_mem_nil) rfl (he _ _ (show (B_X3_addressNames_2 q x1 s) = (false, (x1, s)) from ((if_pos c0).trans rfl)))
  · refine rx_icF rfl (bf c0) rfl ?_
    refine rx_k 1 (9, [(0, .ref (b + (q + 15))), (1, .int x1)], [.ref (b + (q + 15))]) (fun _ _ => rfl) ?_
    refine rx_getf rfl rfl (wl_15 hP hq) rfl ?_
    refine rx_k 1 (13, [(0, .ref (b + (q + 15))), (1, .int x1)], [.int x1, .ref (b + (q + 5))]) (fun _ _ => rfl) ?_
    refine rx_inv rfl rfl (rc_X9_sectionOf hP hq) rfl rfl rfl (q_recv (wl_5 hP hq)) rfl rfl ?_
    refine rx_k 2 (18, [(2, .int (D_X9_sectionOf q s x1)), (0, .ref (b + (q + 15))), (1, .int x1)], [.ref (b + (q + 15))]) (fun _ _ => rfl) ?_
    refine rx_getf rfl rfl (wl_15 hP hq) rfl ?_
    refine rx_k 1 (22, [(2, .int (D_X9_sectionOf q s x1)), (0, .ref (b + (q + 15))), (1, .int x1)], [.int (D_X9_sectionOf q s x1), .ref (b + (q + 12))]) (fun _ _ => rfl) ?_
    refine rx_inv rfl rfl (rc_X7_hasSection hP hq) rfl rfl rfl (q_recv (wl_12 hP hq)) rfl rfl ?_
    by_cases c1 : (D_X7_hasSection q s (D_X9_sectionOf q s x1)) = 0
    · refine rx_ifT rfl (bt c1) ?_
      refine rx_k 2 (2, [(1, .int (x1 + 1)), (2, .int (D_X9_sectionOf q s x1)), (0, .ref (b + (q + 15)))], []) (fun _ _ => rfl) ?_
      refine rx_lo am_X3_addressNames (lo := [(0, .ref (b + (q + 15))), (1, .int (x1 + 1))]) (List.forall_mem_cons.mpr ⟨List.mem_of_getElem? (i := 2) rfl, (List.forall_mem_cons.mpr ⟨List.mem_of_getElem? (i := 0) rfl, (fun _ h => absurd h List.not_mem_nil)⟩)⟩) rfl (hc _ _ (show (B_X3_addressNames_2 q x1 s) = (true, ((x1 + 1), s)) from ((if_neg c0).trans ((if_pos c1).trans rfl))) (lt_nle c0) rfl)
    · refine rx_ifF rfl (bf c1) rfl ?_
      refine rx_k 2 (31, [(2, .int (D_X9_sectionOf q s x1)), (0, .ref (b + (q + 15))), (1, .int x1)], [.int 24, .int (D_X9_sectionOf q s x1)]) (fun _ _ => rfl) ?_
      refine rx_inv rfl rfl (rc_X11_isIn) rfl rfl rfl rfl rfl rfl ?_
      by_cases c2 : (D_X11_isIn (D_X9_sectionOf q s x1) 24) = 0
      · refine rx_ifT rfl (bt c2) ?_
        refine rx_k 2 (2, [(1, .int (x1 + 1)), (2, .int (D_X9_sectionOf q s x1)), (0, .ref (b + (q + 15)))], []) (fun _ _ => rfl) ?_
        refine rx_lo am_X3_addressNames (lo := [(0, .ref (b + (q + 15))), (1, .int (x1 + 1))]) (List.forall_mem_cons.mpr ⟨List.mem_of_getElem? (i := 2) rfl, (List.forall_mem_cons.mpr ⟨List.mem_of_getElem? (i := 0) rfl, (fun _ h => absurd h List.not_mem_nil)⟩)⟩) rfl (hc _ _ (show (B_X3_addressNames_2 q x1 s) = (true, ((x1 + 1), s)) from ((if_neg c0).trans ((if_neg c1).trans ((if_pos c2).trans rfl)))) (lt_nle c0) rfl)
      · refine rx_ifF rfl (bf c2) rfl ?_
        refine rx_k 1 (38, [(2, .int (D_X9_sectionOf q s x1)), (0, .ref (b + (q + 15))), (1, .int x1)], [.ref (b + (q + 15))]) (fun _ _ => rfl) ?_
        refine rx_getf rfl rfl (wl_15 hP hq) rfl ?_
        refine rx_k 2 (43, [(2, .int (D_X9_sectionOf q s x1)), (0, .ref (b + (q + 15))), (1, .int x1)], [.ref (b + (q + 15)), .int x1, .ref (b + (q + 21))]) (fun _ _ => rfl) ?_
        refine rx_getf rfl rfl (wl_15 hP hq) rfl ?_
        refine rx_k 1 (47, [(2, .int (D_X9_sectionOf q s x1)), (0, .ref (b + (q + 15))), (1, .int x1)], [.int (D_X9_sectionOf q s x1), .ref (b + (q + 17)), .int x1, .ref (b + (q + 21))]) (fun _ _ => rfl) ?_
        refine rx_ild rfl rfl (wl_17 hP hq) (ar_at (rg_isIn c2 (m := 24) (n := 24) rfl)) ?_
        refine rx_k 3 (51, [(2, .int (D_X9_sectionOf q s x1)), (0, .ref (b + (q + 15))), (1, .int x1)], [.ref (b + (q + 15)), .int (D_X9_sectionOf q s x1), .ref (b + (q + 15)), .int (s (q + 17) (D_X9_sectionOf q s x1).toNatClampNeg), .int x1, .ref (b + (q + 21))]) (fun _ _ => rfl) ?_
        refine rx_getf rfl rfl (wl_15 hP hq) rfl ?_
        refine rx_k 1 (55, [(2, .int (D_X9_sectionOf q s x1)), (0, .ref (b + (q + 15))), (1, .int x1)], [.int x1, .ref (b + (q + 5)), .int (D_X9_sectionOf q s x1), .ref (b + (q + 15)), .int (s (q + 17) (D_X9_sectionOf q s x1).toNatClampNeg), .int x1, .ref (b + (q + 21))]) (fun _ _ => rfl) ?_
        refine rx_inv rfl rfl (rc_X9_placeOf hP hq) rfl rfl rfl (q_recv (wl_5 hP hq)) rfl rfl ?_
        refine rx_inv rfl rfl (rc_X3_wordsAhead hP hq hN) rfl rfl rfl (q_recv (wl_15 hP hq)) rfl rfl ?_
        refine rx_k 1 (62, [(2, .int (D_X9_sectionOf q s x1)), (0, .ref (b + (q + 15))), (1, .int x1)], [.int ((s (q + 17) (D_X9_sectionOf q s x1).toNatClampNeg) + (D_X3_wordsAhead q s (D_X9_sectionOf q s x1) (D_X9_placeOf q s x1))), .int x1, .ref (b + (q + 21))]) (fun _ _ => rfl) ?_
        refine rx_ist rfl rfl (wl_21 hP hq) rfl (ar_at (rg_c hv c0 (m := 20) (n := 20) rfl)) (wz_21 hP hq (rg_c hv c0 (m := 20) (n := 20) rfl)) ?_
        refine rx_k 2 (2, [(1, .int (x1 + 1)), (2, .int (D_X9_sectionOf q s x1)), (0, .ref (b + (q + 15)))], []) (fun _ _ => rfl) ?_
        refine rx_lo am_X3_addressNames (lo := [(0, .ref (b + (q + 15))), (1, .int (x1 + 1))]) (List.forall_mem_cons.mpr ⟨List.mem_of_getElem? (i := 2) rfl, (List.forall_mem_cons.mpr ⟨List.mem_of_getElem? (i := 0) rfl, (fun _ h => absurd h List.not_mem_nil)⟩)⟩) rfl (hc _ _ (show (B_X3_addressNames_2 q x1 s) = (true, ((x1 + 1), (up s (q + 21) x1.toNatClampNeg ((s (q + 17) (D_X9_sectionOf q s x1).toNatClampNeg) + (D_X3_wordsAhead q s (D_X9_sectionOf q s x1) (D_X9_placeOf q s x1)))))) from ((if_neg c0).trans ((if_neg c1).trans ((if_neg c2).trans rfl)))) (lt_nle c0) rfl)
theorem nb_X3_addressNames_2 {q : Nat} (hq : q = 38 ∨ q = 60) {x1 : Int32} {s : Sg} (hN : NN s) : ∃ (f : Bool) (t1 : Int32) (ts : Sg), (B_X3_addressNames_2 q x1 s) = (f, (t1, ts)) ∧ NN ts := by
  by_cases c0 : 20 ≤ x1
  · exact ⟨_, _, _, (show (B_X3_addressNames_2 q x1 s) = (false, (x1, s)) from ((if_pos c0).trans rfl)), hN⟩
  · by_cases c1 : (D_X7_hasSection q s (D_X9_sectionOf q s x1)) = 0
    · exact ⟨_, _, _, (show (B_X3_addressNames_2 q x1 s) = (true, ((x1 + 1), s)) from ((if_neg c0).trans ((if_pos c1).trans rfl))), hN⟩
    · by_cases c2 : (D_X11_isIn (D_X9_sectionOf q s x1) 24) = 0
      · exact ⟨_, _, _, (show (B_X3_addressNames_2 q x1 s) = (true, ((x1 + 1), s)) from ((if_neg c0).trans ((if_neg c1).trans ((if_pos c2).trans rfl)))), hN⟩
      · exact ⟨_, _, _, (show (B_X3_addressNames_2 q x1 s) = (true, ((x1 + 1), (up s (q + 21) x1.toNatClampNeg ((s (q + 17) (D_X9_sectionOf q s x1).toNatClampNeg) + (D_X3_wordsAhead q s (D_X9_sectionOf q s x1) (D_X9_placeOf q s x1)))))) from ((if_neg c0).trans ((if_neg c1).trans ((if_neg c2).trans rfl)))), (nn_0 (by rcases hq with rfl | rfl <;> rfl) hN)⟩
noncomputable def R_X3_addressNames_69 (q : Nat) (s : Sg) : Sg := s
theorem r_X3_addressNames_69 (hP : WOK b w H0) {q : Nat} (hq : q = 38 ∨ q = 60) {s : Sg} (hN : NN s) : Rx sc g_X3_addressNames 3 ((69, [], [])) (wd b w wl H0 s, kn) none (wd b w wl H0 (R_X3_addressNames_69 q s), kn) := by
  show Rx sc g_X3_addressNames 3 (69, [], []) (wd b w wl H0 s, kn) none (wd b w wl H0 (R_X3_addressNames_69 q s), kn)
  rw [(show (R_X3_addressNames_69 q s) = s from rfl)]
  exact rx_rv rfl
theorem nr_X3_addressNames_69 {q : Nat} (hq : q = 38 ∨ q = 60) {s : Sg} (hN : NN s) : NN ((R_X3_addressNames_69 q s)) := by
  rw [show (R_X3_addressNames_69 q s) = s from rfl]
  exact hN
noncomputable def D_X3_addressNames (q : Nat) (s : Sg) : Sg := (R_X3_addressNames_69 q ((itr (uc2 (B_X3_addressNames_2 q)) BIG (0, s)).2))
theorem m_X3_addressNames (hP : WOK b w H0) {q : Nat} (hq : q = 38 ∨ q = 60) {s : Sg} (hN : NN s) : Rx sc g_X3_addressNames 3 ((0, [(0, .ref (b + (q + 15)))], [])) (wd b w wl H0 s, kn) none (wd b w wl H0 (D_X3_addressNames q s), kn) := by
  show Rx sc g_X3_addressNames 3 (0, [(0, .ref (b + (q + 15)))], []) (wd b w wl H0 s, kn) none (wd b w wl H0 (D_X3_addressNames q s), kn)
  refine rx_k 2 (2, [(1, .int 0), (0, .ref (b + (q + 15)))], []) (fun _ _ => rfl) ?_
  refine rx_lo am_X3_addressNames (lo := [(0, .ref (b + (q + 15))), (1, .int 0)]) (List.forall_mem_cons.mpr ⟨List.mem_of_getElem? (i := 1) rfl, (List.forall_mem_cons.mpr ⟨List.mem_of_getElem? (i := 0) rfl, (fun _ h => absurd h List.not_mem_nil)⟩)⟩) rfl ?_
  refine rx_loop2s (B := B_X3_addressNames_2 q) (fr := (fr_X3_addressNames_2 b w q)) (E := (fe_X3_addressNames_2 b w q)) (I := fun z1 zs => NN zs) (fun z1 zs oo hh9 hI9 hv9 hc9 he9 => b_X3_addressNames_2 hP hq oo hh9 hI9 hv9 hc9 he9) (fun z1 zs hz => nb_X3_addressNames_2 hq hz) BIG 0 s _ _ hN (by decide : (0 : Int) ≤ (0 : Int32).toInt) (le_enough (by decide : (0 : Int) ≤ (0 : Int32).toInt)) ?_
  rw [(show (D_X3_addressNames q s) = (R_X3_addressNames_69 q ((itr (uc2 (B_X3_addressNames_2 q)) BIG (0, s)).2)) from rfl)]
  exact r_X3_addressNames_69 hP hq (itr_inv2 (B := B_X3_addressNames_2 q) (I := fun z1 zs => NN zs) (fun z1 zs hz => nb_X3_addressNames_2 hq hz) BIG 0 s hN)
theorem rc_X3_addressNames (hP : WOK b w H0) {q : Nat} (hq : q = 38 ∨ q = 60) {s : Sg} (hN : NN s) : Rc sc 4 36 [.ref (b + (q + 15))] (wd b w wl H0 s, kn) none (wd b w wl H0 (D_X3_addressNames q s), kn) := rx_mc (m_X3_addressNames hP hq hN) rfl rfl (Nat.ble_eq_true_of_le (Nat.le_refl _)) (Nat.ble_eq_true_of_le (Nat.le_refl _))
theorem nn_X3_addressNames {q : Nat} (hq : q = 38 ∨ q = 60) {s : Sg} (hN : NN s) : NN (D_X3_addressNames q s) := by
  rw [show (D_X3_addressNames q s) = (R_X3_addressNames_69 q ((itr (uc2 (B_X3_addressNames_2 q)) BIG (0, s)).2)) from rfl]
  exact (nr_X3_addressNames_69 hq (itr_inv2 (B := B_X3_addressNames_2 q) (I := fun z1 zs => NN zs) (fun z1 zs hz => nb_X3_addressNames_2 hq hz) BIG 0 s hN))
theorem fwb_X3_addressNames_2 {q : Nat} {x1 : Int32} {s : Sg} {k j : Nat} (l21 : k ≠ q + 21) : ∃ (f : Bool) (t1 : Int32) (ts : Sg), (B_X3_addressNames_2 q x1 s) = (f, (t1, ts)) ∧ ts k j = s k j := by
  by_cases c0 : 20 ≤ x1
  · exact ⟨_, _, _, (show (B_X3_addressNames_2 q x1 s) = (false, (x1, s)) from ((if_pos c0).trans rfl)), rfl⟩
  · by_cases c1 : (D_X7_hasSection q s (D_X9_sectionOf q s x1)) = 0
    · exact ⟨_, _, _, (show (B_X3_addressNames_2 q x1 s) = (true, ((x1 + 1), s)) from ((if_neg c0).trans ((if_pos c1).trans rfl))), rfl⟩
    · by_cases c2 : (D_X11_isIn (D_X9_sectionOf q s x1) 24) = 0
      · exact ⟨_, _, _, (show (B_X3_addressNames_2 q x1 s) = (true, ((x1 + 1), s)) from ((if_neg c0).trans ((if_neg c1).trans ((if_pos c2).trans rfl)))), rfl⟩
      · exact ⟨_, _, _, (show (B_X3_addressNames_2 q x1 s) = (true, ((x1 + 1), (up s (q + 21) x1.toNatClampNeg ((s (q + 17) (D_X9_sectionOf q s x1).toNatClampNeg) + (D_X3_wordsAhead q s (D_X9_sectionOf q s x1) (D_X9_placeOf q s x1)))))) from ((if_neg c0).trans ((if_neg c1).trans ((if_neg c2).trans rfl)))), ((up_a l21).trans rfl)⟩
theorem fwr_X3_addressNames_69 {q : Nat} {s : Sg} {k j : Nat} (l21 : k ≠ q + 21) : (R_X3_addressNames_69 q s) k j = s k j := by
  rw [show (R_X3_addressNames_69 q s) = s from rfl]
  first | done | exact rfl
theorem fw_X3_addressNames {q : Nat} {s : Sg} {k j : Nat} (l21 : k ≠ q + 21) : (D_X3_addressNames q s) k j = s k j := by
  rw [show (D_X3_addressNames q s) = (R_X3_addressNames_69 q ((itr (uc2 (B_X3_addressNames_2 q)) BIG (0, s)).2)) from rfl]
  first | done | exact ((fwr_X3_addressNames_69 l21).trans ((itr_inv2 (B := B_X3_addressNames_2 q) (I := fun z1 zs => zs k j = s k j) (fun z1 zs hz => exq2 (fwb_X3_addressNames_2 l21) hz) BIG 0 s rfl).trans rfl))
end DD
