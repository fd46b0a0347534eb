section DD
variable {sc : Nat × (Nat → Int32)} {b w wl : Nat} {H0 : List EC} {kn : Nat × Nat}
-- LinkHarbour$LibraryTable.isLoaded
noncomputable def D_X4_isLoaded (s : Sg) (a1 : Int32) : Int32 := (if (D_X4_base s a1) = (-1) then 0 else 1)
theorem m_X4_isLoaded (hP : WOK b w H0) {s : Sg} {a1 : Int32} : Rx sc g_X4_isLoaded 2 ((0, [(0, .ref (b + 23)), (1, .int a1)], [])) (wd b w wl H0 s, kn) (some (.int (D_X4_isLoaded s a1))) (wd b w wl H0 s, kn) := by
  show Rx sc g_X4_isLoaded 2 (0, [(0, .ref (b + 23)), (1, .int a1)], []) (wd b w wl H0 s, kn) (some (.int (D_X4_isLoaded s a1))) (wd b w wl H0 s, kn)
  refine rx_k 2 (2, [(0, .ref (b + 23)), (1, .int a1)], [.int a1, .ref (b + 23)]) (fun _ _ => rfl) ?_
  refine rx_inv rfl rfl (rc_X4_base hP) rfl rfl rfl (q_recv (wg_23 hP)) rfl rfl ?_
  refine rx_k 1 (6, [(0, .ref (b + 23)), (1, .int a1)], [.int (-1), .int (D_X4_base s a1)]) (fun _ _ => rfl) ?_
  by_cases c0 : (D_X4_base s a1) = (-1)
  · refine rx_icT rfl (bt c0) ?_
    refine rx_k 1 (14, [(0, .ref (b + 23)), (1, .int a1)], [.int 0]) (fun _ _ => rfl) ?_
    rw [(show (D_X4_isLoaded s a1) = 0 from ((if_pos c0).trans rfl))]
    try dsimp only
    exact rx_ri rfl
  · refine rx_icF rfl (bf c0) rfl ?_
    refine rx_k 2 (14, [(0, .ref (b + 23)), (1, .int a1)], [.int 1]) (fun _ _ => rfl) ?_
    rw [(show (D_X4_isLoaded s a1) = 1 from ((if_neg c0).trans rfl))]
    try dsimp only
    exact rx_ri rfl
theorem bz_X4_isLoaded {s : Sg} {a1 : Int32} : bz (D_X4_isLoaded s a1) = true := by
  by_cases c0 : (D_X4_base s a1) = (-1)
  · rw [show (D_X4_isLoaded s a1) = 0 from ((if_pos c0).trans rfl)]
    exact rfl
  · rw [show (D_X4_isLoaded s a1) = 1 from ((if_neg c0).trans rfl)]
    exact rfl
theorem rc_X4_isLoaded (hP : WOK b w H0) {s : Sg} {a1 : Int32} : Rc sc 3 50 [.ref (b + 23), .int a1] (wd b w wl H0 s, kn) (some (.int (D_X4_isLoaded s a1))) (wd b w wl H0 s, kn) := rx_mc (m_X4_isLoaded hP) rfl (bz_X4_isLoaded ..) (Nat.ble_eq_true_of_le (Nat.le_refl _)) (Nat.ble_eq_true_of_le (Nat.le_refl _))
-- LinkHarbour$LibraryTable.isExport
noncomputable def D_X4_isExport (s : Sg) (a1 : Int32) (a2 : Int32) : Int32 := (if (D_X11_isName a2) = 0 then 0 else (if (D_X11_hasBit (D_X4_exports s a1) a2) = 0 then 0 else 1))
theorem m_X4_isExport (hP : WOK b w H0) {s : Sg} {a1 : Int32} {a2 : Int32} : Rx sc g_X4_isExport 2 ((0, [(0, .ref (b + 23)), (1, .int a1), (2, .int a2)], [])) (wd b w wl H0 s, kn) (some (.int (D_X4_isExport s a1 a2))) (wd b w wl H0 s, kn) := by
  show Rx sc g_X4_isExport 2 (0, [(0, .ref (b + 23)), (1, .int a1), (2, .int a2)], []) (wd b w wl H0 s, kn) (some (.int (D_X4_isExport s a1 a2))) (wd b w wl H0 s, kn)
  refine rx_k 1 (1, [(0, .ref (b + 23)), (1, .int a1), (2, .int a2)], [.int a2]) (fun _ _ => rfl) ?_
  refine rx_inv rfl rfl (rc_X11_isName) rfl rfl rfl rfl rfl rfl ?_
  by_cases c0 : (D_X11_isName a2) = 0
  · refine rx_ifT rfl (bt c0) ?_
    refine rx_k 1 (24, [(0, .ref (b + 23)), (1, .int a1), (2, .int a2)], [.int 0]) (fun _ _ => rfl) ?_
    rw [(show (D_X4_isExport s a1 a2) = 0 from ((if_pos c0).trans rfl))]
    try dsimp only
    exact rx_ri rfl
  · refine rx_ifF rfl (bf c0) rfl ?_
    refine rx_k 2 (9, [(0, .ref (b + 23)), (1, .int a1), (2, .int a2)], [.int a1, .ref (b + 23)]) (fun _ _ => rfl) ?_
    refine rx_inv rfl rfl (rc_X4_exports hP) rfl rfl rfl (q_recv (wg_23 hP)) rfl rfl ?_
    refine rx_k 1 (13, [(0, .ref (b + 23)), (1, .int a1), (2, .int a2)], [.int a2, .int (D_X4_exports s a1)]) (fun _ _ => rfl) ?_
    refine rx_inv rfl rfl (rc_X11_hasBit) rfl rfl rfl rfl rfl rfl ?_
    by_cases c1 : (D_X11_hasBit (D_X4_exports s a1) a2) = 0
    · refine rx_ifT rfl (bt c1) ?_
      refine rx_k 1 (24, [(0, .ref (b + 23)), (1, .int a1), (2, .int a2)], [.int 0]) (fun _ _ => rfl) ?_
      rw [(show (D_X4_isExport s a1 a2) = 0 from ((if_neg c0).trans ((if_pos c1).trans rfl)))]
      try dsimp only
      exact rx_ri rfl
    · refine rx_ifF rfl (bf c1) rfl ?_
      refine rx_k 2 (24, [(0, .ref (b + 23)), (1, .int a1), (2, .int a2)], [.int 1]) (fun _ _ => rfl) ?_
      rw [(show (D_X4_isExport s a1 a2) = 1 from ((if_neg c0).trans ((if_neg c1).trans rfl)))]
      try dsimp only
      exact rx_ri rfl
theorem bz_X4_isExport {s : Sg} {a1 : Int32} {a2 : Int32} : bz (D_X4_isExport s a1 a2) = true := by
  by_cases c0 : (D_X11_isName a2) = 0
  · rw [show (D_X4_isExport s a1 a2) = 0 from ((if_pos c0).trans rfl)]
    exact rfl
  · by_cases c1 : (D_X11_hasBit (D_X4_exports s a1) a2) = 0
    · rw [show (D_X4_isExport s a1 a2) = 0 from ((if_neg c0).trans ((if_pos c1).trans rfl))]
      exact rfl
    · rw [show (D_X4_isExport s a1 a2) = 1 from ((if_neg c0).trans ((if_neg c1).trans rfl))]
      exact rfl
theorem rc_X4_isExport (hP : WOK b w H0) {s : Sg} {a1 : Int32} {a2 : Int32} : Rc sc 3 51 [.ref (b + 23), .int a1, .int a2] (wd b w wl H0 s, kn) (some (.int (D_X4_isExport s a1 a2))) (wd b w wl H0 s, kn) := rx_mc (m_X4_isExport hP) rfl (bz_X4_isExport ..) (Nat.ble_eq_true_of_le (Nat.le_refl _)) (Nat.ble_eq_true_of_le (Nat.le_refl _))
theorem rg_X4_isExport {s : Sg} {a c : Int32} (h : ¬ D_X4_isExport s a c = 0) : rg c 20 := by
  unfold D_X4_isExport at h
  split at h <;> first | exact absurd rfl h | skip
  exact rg_isName (by assumption)
-- LinkHarbour$LibraryTable.isImport
noncomputable def D_X4_isImport (s : Sg) (a1 : Int32) (a2 : Int32) : Int32 := (if (D_X11_isName a2) = 0 then 0 else (if (D_X11_hasBit (D_X4_imports s a1) a2) = 0 then 0 else 1))
theorem m_X4_isImport (hP : WOK b w H0) {s : Sg} {a1 : Int32} {a2 : Int32} : Rx sc g_X4_isImport 2 ((0, [(0, .ref (b + 23)), (1, .int a1), (2, .int a2)], [])) (wd b w wl H0 s, kn) (some (.int (D_X4_isImport s a1 a2))) (wd b w wl H0 s, kn) := by
  show Rx sc g_X4_isImport 2 (0, [(0, .ref (b + 23)), (1, .int a1), (2, .int a2)], []) (wd b w wl H0 s, kn) (some (.int (D_X4_isImport s a1 a2))) (wd b w wl H0 s, kn)
  refine rx_k 1 (1, [(0, .ref (b + 23)), (1, .int a1), (2, .int a2)], [.int a2]) (fun _ _ => rfl) ?_
  refine rx_inv rfl rfl (rc_X11_isName) rfl rfl rfl rfl rfl rfl ?_
  by_cases c0 : (D_X11_isName a2) = 0
  · refine rx_ifT rfl (bt c0) ?_
    refine rx_k 1 (24, [(0, .ref (b + 23)), (1, .int a1), (2, .int a2)], [.int 0]) (fun _ _ => rfl) ?_
    rw [(show (D_X4_isImport s a1 a2) = 0 from ((if_pos c0).trans rfl))]
    try dsimp only
    exact rx_ri rfl
  · refine rx_ifF rfl (bf c0) rfl ?_
    refine rx_k 2 (9, [(0, .ref (b + 23)), (1, .int a1), (2, .int a2)], [.int a1, .ref (b + 23)]) (fun _ _ => rfl) ?_
    refine rx_inv rfl rfl (rc_X4_imports hP) rfl rfl rfl (q_recv (wg_23 hP)) rfl rfl ?_
    refine rx_k 1 (13, [(0, .ref (b + 23)), (1, .int a1), (2, .int a2)], [.int a2, .int (D_X4_imports s a1)]) (fun _ _ => rfl) ?_
    refine rx_inv rfl rfl (rc_X11_hasBit) rfl rfl rfl rfl rfl rfl ?_
    by_cases c1 : (D_X11_hasBit (D_X4_imports s a1) a2) = 0
    · refine rx_ifT rfl (bt c1) ?_
      refine rx_k 1 (24, [(0, .ref (b + 23)), (1, .int a1), (2, .int a2)], [.int 0]) (fun _ _ => rfl) ?_
      rw [(show (D_X4_isImport s a1 a2) = 0 from ((if_neg c0).trans ((if_pos c1).trans rfl)))]
      try dsimp only
      exact rx_ri rfl
    · refine rx_ifF rfl (bf c1) rfl ?_
      refine rx_k 2 (24, [(0, .ref (b + 23)), (1, .int a1), (2, .int a2)], [.int 1]) (fun _ _ => rfl) ?_
      rw [(show (D_X4_isImport s a1 a2) = 1 from ((if_neg c0).trans ((if_neg c1).trans rfl)))]
      try dsimp only
      exact rx_ri rfl
theorem bz_X4_isImport {s : Sg} {a1 : Int32} {a2 : Int32} : bz (D_X4_isImport s a1 a2) = true := by
  by_cases c0 : (D_X11_isName a2) = 0
  · rw [show (D_X4_isImport s a1 a2) = 0 from ((if_pos c0).trans rfl)]
    exact rfl
  · by_cases c1 : (D_X11_hasBit (D_X4_imports s a1) a2) = 0
    · rw [show (D_X4_isImport s a1 a2) = 0 from ((if_neg c0).trans ((if_pos c1).trans rfl))]
      exact rfl
    · rw [show (D_X4_isImport s a1 a2) = 1 from ((if_neg c0).trans ((if_neg c1).trans rfl))]
      exact rfl
theorem rc_X4_isImport (hP : WOK b w H0) {s : Sg} {a1 : Int32} {a2 : Int32} : Rc sc 3 52 [.ref (b + 23), .int a1, .int a2] (wd b w wl H0 s, kn) (some (.int (D_X4_isImport s a1 a2))) (wd b w wl H0 s, kn) := rx_mc (m_X4_isImport hP) rfl (bz_X4_isImport ..) (Nat.ble_eq_true_of_le (Nat.le_refl _)) (Nat.ble_eq_true_of_le (Nat.le_refl _))
-- LinkHarbour$LibraryTable.exportAddress
noncomputable def D_X4_exportAddress (s : Sg) (a1 : Int32) (a2 : Int32) : Int32 := (if (D_X4_isExport s a1 a2) = 0 then (-1) else (if (D_X4_has s a1) = 0 then (-1) else (s 28 ((a1 * 20) + a2).toNatClampNeg)))
theorem m_X4_exportAddress (hP : WOK b w H0) {s : Sg} {a1 : Int32} {a2 : Int32} : Rx sc g_X4_exportAddress 3 ((0, [(0, .ref (b + 23)), (1, .int a1), (2, .int a2)], [])) (wd b w wl H0 s, kn) (some (.int (D_X4_exportAddress s a1 a2))) (wd b w wl H0 s, kn) := by
  show Rx sc g_X4_exportAddress 3 (0, [(0, .ref (b + 23)), (1, .int a1), (2, .int a2)], []) (wd b w wl H0 s, kn) (some (.int (D_X4_exportAddress s a1 a2))) (wd b w wl H0 s, kn)
  refine rx_k 3 (3, [(0, .ref (b + 23)), (1, .int a1), (2, .int a2)], [.int a2, .int a1, .ref (b + 23)]) (fun _ _ => rfl) ?_
  refine rx_inv rfl rfl (rc_X4_isExport hP) rfl rfl rfl (q_recv (wg_23 hP)) rfl rfl ?_
  by_cases c0 : (D_X4_isExport s a1 a2) = 0
  · refine rx_ifT rfl (bt c0) ?_
    refine rx_k 1 (32, [(0, .ref (b + 23)), (1, .int a1), (2, .int a2)], [.int (-1)]) (fun _ _ => rfl) ?_
    rw [(show (D_X4_exportAddress s a1 a2) = (-1) from ((if_pos c0).trans rfl))]
    try dsimp only
    exact rx_ri rfl
  · refine rx_ifF rfl (bf c0) rfl ?_
    refine rx_k 2 (11, [(0, .ref (b + 23)), (1, .int a1), (2, .int a2)], [.int a1, .ref (b + 23)]) (fun _ _ => rfl) ?_
    refine rx_inv rfl rfl (rc_X4_has hP) rfl rfl rfl (q_recv (wg_23 hP)) rfl rfl ?_
    by_cases c1 : (D_X4_has s a1) = 0
    · refine rx_ifT rfl (bt c1) ?_
      refine rx_k 1 (32, [(0, .ref (b + 23)), (1, .int a1), (2, .int a2)], [.int (-1)]) (fun _ _ => rfl) ?_
      rw [(show (D_X4_exportAddress s a1 a2) = (-1) from ((if_neg c0).trans ((if_pos c1).trans rfl)))]
      try dsimp only
      exact rx_ri rfl
    · refine rx_ifF rfl (bf c1) rfl ?_
      refine rx_k 1 (18, [(0, .ref (b + 23)), (1, .int a1), (2, .int a2)], [.ref (b + 23)]) (fun _ _ => rfl) ?_
      refine rx_getf rfl rfl (wg_23 hP) rfl ?_
      refine rx_k 5 (27, [(0, .ref (b + 23)), (1, .int a1), (2, .int a2)], [.int ((a1 * 20) + a2), .ref (b + 28)]) (fun _ _ => rfl) ?_
      refine rx_ild rfl rfl (wg_28 hP) (ar_at (i_mul_add 20 20 rfl (rg_X4_has c1) (rg_X4_isExport c0) (by decide) (by decide))) ?_
      refine rx_k 1 (32, [(0, .ref (b + 23)), (1, .int a1), (2, .int a2)], [.int (s 28 ((a1 * 20) + a2).toNatClampNeg)]) (fun _ _ => rfl) ?_
      rw [(show (D_X4_exportAddress s a1 a2) = (s 28 ((a1 * 20) + a2).toNatClampNeg) from ((if_neg c0).trans ((if_neg c1).trans rfl)))]
      try dsimp only
      exact rx_ri rfl
theorem rc_X4_exportAddress (hP : WOK b w H0) {s : Sg} {a1 : Int32} {a2 : Int32} : Rc sc 4 53 [.ref (b + 23), .int a1, .int a2] (wd b w wl H0 s, kn) (some (.int (D_X4_exportAddress s a1 a2))) (wd b w wl H0 s, kn) := rx_mc (m_X4_exportAddress hP) rfl rfl (Nat.ble_eq_true_of_le (Nat.le_refl _)) (Nat.ble_eq_true_of_le (Nat.le_refl _))
-- LinkHarbour$LibraryTable.boundTo
noncomputable def D_X4_boundTo (s : Sg) (a1 : Int32) (a2 : Int32) : Int32 := (if (D_X4_has s a1) = 0 then (-1) else (if (D_X11_isName a2) = 0 then (-1) else (s 31 ((a1 * 20) + a2).toNatClampNeg)))
theorem m_X4_boundTo (hP : WOK b w H0) {s : Sg} {a1 : Int32} {a2 : Int32} : Rx sc g_X4_boundTo 1 ((0, [(0, .ref (b + 23)), (1, .int a1), (2, .int a2)], [])) (wd b w wl H0 s, kn) (some (.int (D_X4_boundTo s a1 a2))) (wd b w wl H0 s, kn) := by
  show Rx sc g_X4_boundTo 1 (0, [(0, .ref (b + 23)), (1, .int a1), (2, .int a2)], []) (wd b w wl H0 s, kn) (some (.int (D_X4_boundTo s a1 a2))) (wd b w wl H0 s, kn)
  refine rx_k 2 (2, [(0, .ref (b + 23)), (1, .int a1), (2, .int a2)], [.int a1, .ref (b + 23)]) (fun _ _ => rfl) ?_
  refine rx_inv rfl rfl (rc_X4_has hP) rfl rfl rfl (q_recv (wg_23 hP)) rfl rfl ?_
  by_cases c0 : (D_X4_has s a1) = 0
  · refine rx_ifT rfl (bt c0) ?_
    refine rx_k 1 (30, [(0, .ref (b + 23)), (1, .int a1), (2, .int a2)], [.int (-1)]) (fun _ _ => rfl) ?_
    rw [(show (D_X4_boundTo s a1 a2) = (-1) from ((if_pos c0).trans rfl))]
    try dsimp only
    exact rx_ri rfl
  · refine rx_ifF rfl (bf c0) rfl ?_
    refine rx_k 1 (9, [(0, .ref (b + 23)), (1, .int a1), (2, .int a2)], [.int a2]) (fun _ _ => rfl) ?_
    refine rx_inv rfl rfl (rc_X11_isName) rfl rfl rfl rfl rfl rfl ?_
    by_cases c1 : (D_X11_isName a2) = 0
    · refine rx_ifT rfl (bt c1) ?_
      refine rx_k 1 (30, [(0, .ref (b + 23)), (1, .int a1), (2, .int a2)], [.int (-1)]) (fun _ _ => rfl) ?_
      rw [(show (D_X4_boundTo s a1 a2) = (-1) from ((if_neg c0).trans ((if_pos c1).trans rfl)))]
      try dsimp only
      exact rx_ri rfl
    · refine rx_ifF rfl (bf c1) rfl ?_
      refine rx_k 1 (16, [(0, .ref (b + 23)), (1, .int a1), (2, .int a2)], [.ref (b + 23)]) (fun _ _ => rfl) ?_
      refine rx_getf rfl rfl (wg_23 hP) rfl ?_
      refine rx_k 5 (25, [(0, .ref (b + 23)), (1, .int a1), (2, .int a2)], [.int ((a1 * 20) + a2), .ref (b + 31)]) (fun _ _ => rfl) ?_
      refine rx_ild rfl rfl (wg_31 hP) (ar_at (i_mul_add 20 20 rfl (rg_X4_has c0) (rg_isName c1) (by decide) (by decide))) ?_
      refine rx_k 1 (30, [(0, .ref (b + 23)), (1, .int a1), (2, .int a2)], [.int (s 31 ((a1 * 20) + a2).toNatClampNeg)]) (fun _ _ => rfl) ?_
      rw [(show (D_X4_boundTo s a1 a2) = (s 31 ((a1 * 20) + a2).toNatClampNeg) from ((if_neg c0).trans ((if_neg c1).trans rfl)))]
      try dsimp only
      exact rx_ri rfl
theorem rc_X4_boundTo (hP : WOK b w H0) {s : Sg} {a1 : Int32} {a2 : Int32} : Rc sc 2 54 [.ref (b + 23), .int a1, .int a2] (wd b w wl H0 s, kn) (some (.int (D_X4_boundTo s a1 a2))) (wd b w wl H0 s, kn) := rx_mc (m_X4_boundTo hP) rfl rfl (Nat.ble_eq_true_of_le (Nat.le_refl _)) (Nat.ble_eq_true_of_le (Nat.le_refl _))
-- LinkHarbour$LibraryTable.boundAddress
noncomputable def D_X4_boundAddress (s : Sg) (a1 : Int32) (a2 : Int32) : Int32 := (if (D_X4_boundTo s a1 a2) = (-1) then (-1) else ((D_X4_base s (D_X4_boundTo s a1 a2)) + (D_X4_exportAddress s (D_X4_boundTo s a1 a2) a2)))
theorem m_X4_boundAddress (hP : WOK b w H0) {s : Sg} {a1 : Int32} {a2 : Int32} : Rx sc g_X4_boundAddress 4 ((0, [(0, .ref (b + 23)), (1, .int a1), (2, .int a2)], [])) (wd b w wl H0 s, kn) (some (.int (D_X4_boundAddress s a1 a2))) (wd b w wl H0 s, kn) := by
  show Rx sc g_X4_boundAddress 4 (0, [(0, .ref (b + 23)), (1, .int a1), (2, .int a2)], []) (wd b w wl H0 s, kn) (some (.int (D_X4_boundAddress s a1 a2))) (wd b w wl H0 s, kn)
  refine rx_k 3 (3, [(0, .ref (b + 23)), (1, .int a1), (2, .int a2)], [.int a2, .int a1, .ref (b + 23)]) (fun _ _ => rfl) ?_
  refine rx_inv rfl rfl (rc_X4_boundTo hP) rfl rfl rfl (q_recv (wg_23 hP)) rfl rfl ?_
  refine rx_k 3 (9, [(3, .int (D_X4_boundTo s a1 a2)), (0, .ref (b + 23)), (1, .int a1), (2, .int a2)], [.int (-1), .int (D_X4_boundTo s a1 a2)]) (fun _ _ => rfl) ?_
  by_cases c0 : (D_X4_boundTo s a1 a2) = (-1)
  · refine rx_icF rfl (nf c0) rfl ?_
    refine rx_k 2 (28, [(3, .int (D_X4_boundTo s a1 a2)), (0, .ref (b + 23)), (1, .int a1), (2, .int a2)], [.int (-1)]) (fun _ _ => rfl) ?_
    rw [(show (D_X4_boundAddress s a1 a2) = (-1) from ((if_pos c0).trans rfl))]
    try dsimp only
    exact rx_ri rfl
  · refine rx_icT rfl (nt c0) ?_
    refine rx_k 2 (18, [(3, .int (D_X4_boundTo s a1 a2)), (0, .ref (b + 23)), (1, .int a1), (2, .int a2)], [.int (D_X4_boundTo s a1 a2), .ref (b + 23)]) (fun _ _ => rfl) ?_
    refine rx_inv rfl rfl (rc_X4_base hP) rfl rfl rfl (q_recv (wg_23 hP)) rfl rfl ?_
    refine rx_k 3 (24, [(3, .int (D_X4_boundTo s a1 a2)), (0, .ref (b + 23)), (1, .int a1), (2, .int a2)], [.int a2, .int (D_X4_boundTo s a1 a2), .ref (b + 23), .int (D_X4_base s (D_X4_boundTo s a1 a2))]) (fun _ _ => rfl) ?_
    refine rx_inv rfl rfl (rc_X4_exportAddress hP) rfl rfl rfl (q_recv (wg_23 hP)) rfl rfl ?_
    refine rx_k 1 (28, [(3, .int (D_X4_boundTo s a1 a2)), (0, .ref (b + 23)), (1, .int a1), (2, .int a2)], [.int ((D_X4_base s (D_X4_boundTo s a1 a2)) + (D_X4_exportAddress s (D_X4_boundTo s a1 a2) a2))]) (fun _ _ => rfl) ?_
    rw [(show (D_X4_boundAddress s a1 a2) = ((D_X4_base s (D_X4_boundTo s a1 a2)) + (D_X4_exportAddress s (D_X4_boundTo s a1 a2) a2)) from ((if_neg c0).trans rfl))]
    try dsimp only
    exact rx_ri rfl
theorem rc_X4_boundAddress (hP : WOK b w H0) {s : Sg} {a1 : Int32} {a2 : Int32} : Rc sc 5 55 [.ref (b + 23), .int a1, .int a2] (wd b w wl H0 s, kn) (some (.int (D_X4_boundAddress s a1 a2))) (wd b w wl H0 s, kn) := rx_mc (m_X4_boundAddress hP) rfl rfl (Nat.ble_eq_true_of_le (Nat.le_refl _)) (Nat.ble_eq_true_of_le (Nat.le_refl _))
-- LinkHarbour$LibraryTable.placeIn
def fr_X4_placeIn_32_2 (b w : Nat) (a1 : Int32) (a2 : Int32) (x : Int32) : EF := (2, [(0, .ref (b + 32)), (1, .int a1), (2, .int a2), (3, .int x)], [])
def fe_X4_placeIn_32_2 (b w : Nat) (a1 : Int32) (a2 : Int32) (x : Int32) : EF := (28, [], [])
noncomputable def B_X4_placeIn_32_2 (s : Sg) (a1 : Int32) (a2 : Int32) (x : Int32) : Option (Option Int32) × (Int32) := (if a1 ≤ x then ((some none), x) else (if 6 ≤ x then ((some none), x) else (if (s 32 x.toNatClampNeg) = a2 then (some (some x), x) else (none, (x + 1)))))
theorem b_X4_placeIn_32_2 (hP : WOK b w H0) {s : Sg} {a1 : Int32} {a2 : Int32} (x : Int32) (o : Option Value) (h' : EH) (hN : NN s) (hv : 0 ≤ (x).toInt) (hc : (B_X4_placeIn_32_2 s a1 a2 x).1 = none → (x).toInt < 2147483647 → (B_X4_placeIn_32_2 s a1 a2 x).2 = x + 1 → Rx sc g_X4_placeIn 0 (fr_X4_placeIn_32_2 b w a1 a2 (B_X4_placeIn_32_2 s a1 a2 x).2) (wd b w wl H0 s, kn) o h') (he : (B_X4_placeIn_32_2 s a1 a2 x).1 = some none → Rx sc g_X4_placeIn 0 (fe_X4_placeIn_32_2 b w a1 a2 (B_X4_placeIn_32_2 s a1 a2 x).2) (wd b w wl H0 s, kn) o h') (hr : ∀ v, (B_X4_placeIn_32_2 s a1 a2 x).1 = some (some v) → o = some (.int v) ∧ h' = (wd b w wl H0 s, kn)) : Rx sc g_X4_placeIn 0 (fr_X4_placeIn_32_2 b w a1 a2 x) (wd b w wl H0 s, kn) o h' := by
  show Rx sc g_X4_placeIn 0 (2, [(0, .ref (b + 32)), (1, .int a1), (2, .int a2), (3, .int x)], []) (wd b w wl H0 s, kn) o h'
  refine rx_k 2 (4, [(0, .ref (b + 32)), (1, .int a1), (2, .int a2), (3, .int x)], [.int a1, .int x]) (fun _ _ => rfl) ?_
  by_cases c0 : a1 ≤ x
  · refine rx_icT rfl (bt c0) ?_
    rw [(show (B_X4_placeIn_32_2 s a1 a2 x) = ((some none), x) from ((if_pos c0).trans rfl))] at he
    dsimp only at he
    exact rx_lo am_X4_placeIn (lo := []) (fun _ h => absurd h List.not_mem_nil) rfl (he rfl)
  · refine rx_icF rfl (bf c0) rfl ?_
    refine rx_k 2 (9, [(0, .ref (b + 32)), (1, .int a1), (2, .int a2), (3, .int x)], [.ref (b + 32), .int x]) (fun _ _ => rfl) ?_
    refine rx_alen (z := 6) rfl rfl (wg_32 hP) rfl rfl ?_
    by_cases c1 : 6 ≤ x
    · refine rx_icT rfl (bt c1) ?_
      rw [(show (B_X4_placeIn_32_2 s a1 a2 x) = ((some none), x) from ((if_neg c0).trans ((if_pos c1).trans rfl)))] at he
      dsimp only at he
      exact rx_lo am_X4_placeIn (lo := []) (fun _ h => absurd h List.not_mem_nil) rfl (he rfl)
    · refine rx_icF rfl (bf c1) rfl ?_
      refine rx_k 2 (15, [(0, .ref (b + 32)), (1, .int a1), (2, .int a2), (3, .int x)], [.int x, .ref (b + 32)]) (fun _ _ => rfl) ?_
      refine rx_ild rfl rfl (wg_32 hP) (ar_at (rg_c hv c1 (m := 6) (n := 6) rfl)) ?_
      refine rx_k 1 (17, [(0, .ref (b + 32)), (1, .int a1), (2, .int a2), (3, .int x)], [.int a2, .int (s 32 x.toNatClampNeg)]) (fun _ _ => rfl) ?_
      by_cases c2 : (s 32 x.toNatClampNeg) = a2
      · refine rx_icF rfl (nf c2) rfl ?_
        refine rx_k 1 (21, [(0, .ref (b + 32)), (1, .int a1), (2, .int a2), (3, .int x)], [.int x]) (fun _ _ => rfl) ?_
        obtain ⟨hr1, hr2⟩ := hr x (by rw [(show (B_X4_placeIn_32_2 s a1 a2 x) = (some (some x), x) from ((if_neg c0).trans ((if_neg c1).trans ((if_pos c2).trans rfl))))])
        rw [hr1, hr2]
        exact rx_ri rfl
      · refine rx_icT rfl (nt c2) ?_
        refine rx_k 2 (2, [(3, .int (x + 1)), (0, .ref (b + 32)), (1, .int a1), (2, .int a2)], []) (fun _ _ => rfl) ?_
        rw [(show (B_X4_placeIn_32_2 s a1 a2 x) = (none, (x + 1)) from ((if_neg c0).trans ((if_neg c1).trans ((if_neg c2).trans rfl))))] at hc
        dsimp only at hc
        refine rx_lo am_X4_placeIn (lo := [(0, .ref (b + 32)), (1, .int a1), (2, .int a2), (3, .int (x + 1))]) (List.forall_mem_cons.mpr ⟨List.mem_of_getElem? (i := 1) rfl, (List.forall_mem_cons.mpr ⟨List.mem_of_getElem? (i := 2) rfl, (List.forall_mem_cons.mpr ⟨List.mem_of_getElem? (i := 3) rfl, (List.forall_mem_cons.mpr ⟨List.mem_of_getElem? (i := 0) rfl, (fun _ h => absurd h List.not_mem_nil)⟩)⟩)⟩)⟩) rfl (hc rfl (lt_nle c0) rfl)
noncomputable def R_X4_placeIn_32_28 (s : Sg) : Int32 := (-1)
theorem r_X4_placeIn_32_28 (hP : WOK b w H0) {s : Sg} (hN : NN s) : Rx sc g_X4_placeIn 0 ((28, [], [])) (wd b w wl H0 s, kn) (some (.int (R_X4_placeIn_32_28 s))) (wd b w wl H0 s, kn) := by
  show Rx sc g_X4_placeIn 0 (28, [], []) (wd b w wl H0 s, kn) (some (.int (R_X4_placeIn_32_28 s))) (wd b w wl H0 s, kn)
  refine rx_k 1 (29, [], [.int (-1)]) (fun _ _ => rfl) ?_
  rw [(show (R_X4_placeIn_32_28 s) = (-1) from rfl)]
  try dsimp only
  exact rx_ri rfl
noncomputable def D_X4_placeIn_32 (s : Sg) (a1 : Int32) (a2 : Int32) : Int32 := (match (itf (B_X4_placeIn_32_2 s a1 a2) BIG 0) with | some v => v | none => (R_X4_placeIn_32_28 s))
theorem m_X4_placeIn_32 (hP : WOK b w H0) {s : Sg} {a1 : Int32} {a2 : Int32} (hN : NN s) : Rx sc g_X4_placeIn 0 ((0, [(0, .ref (b + 32)), (1, .int a1), (2, .int a2)], [])) (wd b w wl H0 s, kn) (some (.int (D_X4_placeIn_32 s a1 a2))) (wd b w wl H0 s, kn) := by
  show Rx sc g_X4_placeIn 0 (0, [(0, .ref (b + 32)), (1, .int a1), (2, .int a2)], []) (wd b w wl H0 s, kn) (some (.int (D_X4_placeIn_32 s a1 a2))) (wd b w wl H0 s, kn)
  refine rx_k 2 (2, [(3, .int 0), (0, .ref (b + 32)), (1, .int a1), (2, .int a2)], []) (fun _ _ => rfl) ?_
  refine rx_lo am_X4_placeIn (lo := [(0, .ref (b + 32)), (1, .int a1), (2, .int a2), (3, .int 0)]) (List.forall_mem_cons.mpr ⟨List.mem_of_getElem? (i := 1) rfl, (List.forall_mem_cons.mpr ⟨List.mem_of_getElem? (i := 2) rfl, (List.forall_mem_cons.mpr ⟨List.mem_of_getElem? (i := 3) rfl, (List.forall_mem_cons.mpr ⟨List.mem_of_getElem? (i := 0) rfl, (fun _ h => absurd h List.not_mem_nil)⟩)⟩)⟩)⟩) rfl ?_
  have e9 := (show (D_X4_placeIn_32 s a1 a2) = (match (itf (B_X4_placeIn_32_2 s a1 a2) BIG 0) with | some v => v | none => (R_X4_placeIn_32_28 s)) from rfl)
  refine rx_loopF (B := B_X4_placeIn_32_2 s a1 a2) (fr := (fr_X4_placeIn_32_2 b w a1 a2)) (E := (fe_X4_placeIn_32_2 b w a1 a2)) (hp := (wd b w wl H0 s, kn)) (vr := fun z => z) (fun z hv1 hc1 he1 hr1 => b_X4_placeIn_32_2 hP z _ _ hN hv1 hc1 he1 hr1) BIG 0 (by decide : (0 : Int) ≤ (0 : Int32).toInt) (le_enough (by decide : (0 : Int) ≤ (0 : Int32).toInt)) (fun e1 y => ?_) (fun v e1 => ?_)
  · rw [e9, e1]
    exact r_X4_placeIn_32_28 hP hN
  · exact ⟨by rw [e9, e1], rfl⟩
theorem rc_X4_placeIn_32 (hP : WOK b w H0) {s : Sg} {a1 : Int32} {a2 : Int32} (hN : NN s) : Rc sc 1 58 [.ref (b + 32), .int a1, .int a2] (wd b w wl H0 s, kn) (some (.int (D_X4_placeIn_32 s a1 a2))) (wd b w wl H0 s, kn) := rx_mc (m_X4_placeIn_32 hP hN) rfl rfl (Nat.ble_eq_true_of_le (Nat.le_refl _)) (Nat.ble_eq_true_of_le (Nat.le_refl _))
-- LinkHarbour$LibraryTable.placeIn
def fr_X4_placeIn_33_2 (b w : Nat) (a1 : Int32) (a2 : Int32) (x : Int32) : EF := (2, [(0, .ref (b + 33)), (1, .int a1), (2, .int a2), (3, .int x)], [])
def fe_X4_placeIn_33_2 (b w : Nat) (a1 : Int32) (a2 : Int32) (x : Int32) : EF := (28, [], [])
noncomputable def B_X4_placeIn_33_2 (s : Sg) (a1 : Int32) (a2 : Int32) (x : Int32) : Option (Option Int32) × (Int32) := (if a1 ≤ x then ((some none), x) else (if 6 ≤ x then ((some none), x) else (if (s 33 x.toNatClampNeg) = a2 then (some (some x), x) else (none, (x + 1)))))
theorem b_X4_placeIn_33_2 (hP : WOK b w H0) {s : Sg} {a1 : Int32} {a2 : Int32} (x : Int32) (o : Option Value) (h' : EH) (hN : NN s) (hv : 0 ≤ (x).toInt) (hc : (B_X4_placeIn_33_2 s a1 a2 x).1 = none → (x).toInt < 2147483647 → (B_X4_placeIn_33_2 s a1 a2 x).2 = x + 1 → Rx sc g_X4_placeIn 0 (fr_X4_placeIn_33_2 b w a1 a2 (B_X4_placeIn_33_2 s a1 a2 x).2) (wd b w wl H0 s, kn) o h') (he : (B_X4_placeIn_33_2 s a1 a2 x).1 = some none → Rx sc g_X4_placeIn 0 (fe_X4_placeIn_33_2 b w a1 a2 (B_X4_placeIn_33_2 s a1 a2 x).2) (wd b w wl H0 s, kn) o h') (hr : ∀ v, (B_X4_placeIn_33_2 s a1 a2 x).1 = some (some v) → o = some (.int v) ∧ h' = (wd b w wl H0 s, kn)) : Rx sc g_X4_placeIn 0 (fr_X4_placeIn_33_2 b w a1 a2 x) (wd b w wl H0 s, kn) o h' := by
  show Rx sc g_X4_placeIn 0 (2, [(0, .ref (b + 33)), (1, .int a1), (2, .int a2), (3, .int x)], []) (wd b w wl H0 s, kn) o h'
  refine rx_k 2 (4, [(0, .ref (b + 33)), (1, .int a1), (2, .int a2), (3, .int x)], [.int a1, .int x]) (fun _ _ => rfl) ?_
  by_cases c0 : a1 ≤ x
  · refine rx_icT rfl (bt c0) ?_
    rw [(show (B_X4_placeIn_33_2 s a1 a2 x) = ((some none), x) from ((if_pos c0).trans rfl))] at he
    dsimp only at he
    exact rx_lo am_X4_placeIn (lo := []) (fun _ h => absurd h List.not_mem_nil) rfl (he rfl)
  · refine rx_icF rfl (bf c0) rfl ?_
    refine rx_k 2 (9, [(0, .ref (b + 33)), (1, .int a1), (2, .int a2), (3, .int x)], [.ref (b + 33), .int x]) (fun _ _ => rfl) ?_
    refine rx_alen (z := 6) rfl rfl (wg_33 hP) rfl rfl ?_
    by_cases c1 : 6 ≤ x
    · refine rx_icT rfl (bt c1) ?_
      rw [(show (B_X4_placeIn_33_2 s a1 a2 x) = ((some none), x) from ((if_neg c0).trans ((if_pos c1).trans rfl)))] at he
      dsimp only at he
      exact rx_lo am_X4_placeIn (lo := []) (fun _ h => absurd h List.not_mem_nil) rfl (he rfl)
    · refine rx_icF rfl (bf c1) rfl ?_
      refine rx_k 2 (15, [(0, .ref (b + 33)), (1, .int a1), (2, .int a2), (3, .int x)], [.int x, .ref (b + 33)]) (fun _ _ => rfl) ?_
      refine rx_ild rfl rfl (wg_33 hP) (ar_at (rg_c hv c1 (m := 6) (n := 6) rfl)) ?_
      refine rx_k 1 (17, [(0, .ref (b + 33)), (1, .int a1), (2, .int a2), (3, .int x)], [.int a2, .int (s 33 x.toNatClampNeg)]) (fun _ _ => rfl) ?_
      by_cases c2 : (s 33 x.toNatClampNeg) = a2
      · refine rx_icF rfl (nf c2) rfl ?_
        refine rx_k 1 (21, [(0, .ref (b + 33)), (1, .int a1), (2, .int a2), (3, .int x)], [.int x]) (fun _ _ => rfl) ?_
        obtain ⟨hr1, hr2⟩ := hr x (by rw [(show (B_X4_placeIn_33_2 s a1 a2 x) = (some (some x), x) from ((if_neg c0).trans ((if_neg c1).trans ((if_pos c2).trans rfl))))])
        rw [hr1, hr2]
        exact rx_ri rfl
      · refine rx_icT rfl (nt c2) ?_
        refine rx_k 2 (2, [(3, .int (x + 1)), (0, .ref (b + 33)), (1, .int a1), (2, .int a2)], []) (fun _ _ => rfl) ?_
        rw [(show (B_X4_placeIn_33_2 s a1 a2 x) = (none, (x + 1)) from ((if_neg c0).trans ((if_neg c1).trans ((if_neg c2).trans rfl))))] at hc
        dsimp only at hc
        refine rx_lo am_X4_placeIn (lo := [(0, .ref (b + 33)), (1, .int a1), (2, .int a2), (3, .int (x + 1))]) (List.forall_mem_cons.mpr ⟨List.mem_of_getElem? (i := 1) rfl, (List.forall_mem_cons.mpr ⟨List.mem_of_getElem? (i := 2) rfl, (List.forall_mem_cons.mpr ⟨List.mem_of_getElem? (i := 3) rfl, (List.forall_mem_cons.mpr ⟨List.mem_of_getElem? (i := 0) rfl, (fun _ h => absurd h List.not_mem_nil)⟩)⟩)⟩)⟩) rfl (hc rfl (lt_nle c0) rfl)
noncomputable def R_X4_placeIn_33_28 (s : Sg) : Int32 := (-1)
theorem r_X4_placeIn_33_28 (hP : WOK b w H0) {s : Sg} (hN : NN s) : Rx sc g_X4_placeIn 0 ((28, [], [])) (wd b w wl H0 s, kn) (some (.int (R_X4_placeIn_33_28 s))) (wd b w wl H0 s, kn) := by
  show Rx sc g_X4_placeIn 0 (28, [], []) (wd b w wl H0 s, kn) (some (.int (R_X4_placeIn_33_28 s))) (wd b w wl H0 s, kn)
  refine rx_k 1 (29, [], [.int (-1)]) (fun _ _ => rfl) ?_
  rw [(show (R_X4_placeIn_33_28 s) = (-1) from rfl)]
  try dsimp only
  exact rx_ri rfl
noncomputable def D_X4_placeIn_33 (s : Sg) (a1 : Int32) (a2 : Int32) : Int32 := (match (itf (B_X4_placeIn_33_2 s a1 a2) BIG 0) with | some v => v | none => (R_X4_placeIn_33_28 s))
theorem m_X4_placeIn_33 (hP : WOK b w H0) {s : Sg} {a1 : Int32} {a2 : Int32} (hN : NN s) : Rx sc g_X4_placeIn 0 ((0, [(0, .ref (b + 33)), (1, .int a1), (2, .int a2)], [])) (wd b w wl H0 s, kn) (some (.int (D_X4_placeIn_33 s a1 a2))) (wd b w wl H0 s, kn) := by
  show Rx sc g_X4_placeIn 0 (0, [(0, .ref (b + 33)), (1, .int a1), (2, .int a2)], []) (wd b w wl H0 s, kn) (some (.int (D_X4_placeIn_33 s a1 a2))) (wd b w wl H0 s, kn)
  refine rx_k 2 (2, [(3, .int 0), (0, .ref (b + 33)), (1, .int a1), (2, .int a2)], []) (fun _ _ => rfl) ?_
  refine rx_lo am_X4_placeIn (lo := [(0, .ref (b + 33)), (1, .int a1), (2, .int a2), (3, .int 0)]) (List.forall_mem_cons.mpr ⟨List.mem_of_getElem? (i := 1) rfl, (List.forall_mem_cons.mpr ⟨List.mem_of_getElem? (i := 2) rfl, (List.forall_mem_cons.mpr ⟨List.mem_of_getElem? (i := 3) rfl, (List.forall_mem_cons.mpr ⟨List.mem_of_getElem? (i := 0) rfl, (fun _ h => absurd h List.not_mem_nil)⟩)⟩)⟩)⟩) rfl ?_
  have e9 := (show (D_X4_placeIn_33 s a1 a2) = (match (itf (B_X4_placeIn_33_2 s a1 a2) BIG 0) with | some v => v | none => (R_X4_placeIn_33_28 s)) from rfl)
  refine rx_loopF (B := B_X4_placeIn_33_2 s a1 a2) (fr := (fr_X4_placeIn_33_2 b w a1 a2)) (E := (fe_X4_placeIn_33_2 b w a1 a2)) (hp := (wd b w wl H0 s, kn)) (vr := fun z => z) (fun z hv1 hc1 he1 hr1 => b_X4_placeIn_33_2 hP z _ _ hN hv1 hc1 he1 hr1) BIG 0 (by decide : (0 : Int) ≤ (0 : Int32).toInt) (le_enough (by decide : (0 : Int) ≤ (0 : Int32).toInt)) (fun e1 y => ?_) (fun v e1 => ?_)
  · rw [e9, e1]
    exact r_X4_placeIn_33_28 hP hN
  · exact ⟨by rw [e9, e1], rfl⟩
theorem rc_X4_placeIn_33 (hP : WOK b w H0) {s : Sg} {a1 : Int32} {a2 : Int32} (hN : NN s) : Rc sc 1 58 [.ref (b + 33), .int a1, .int a2] (wd b w wl H0 s, kn) (some (.int (D_X4_placeIn_33 s a1 a2))) (wd b w wl H0 s, kn) := rx_mc (m_X4_placeIn_33 hP hN) rfl rfl (Nat.ble_eq_true_of_le (Nat.le_refl _)) (Nat.ble_eq_true_of_le (Nat.le_refl _))
-- LinkHarbour$LibraryTable.placeAmongGlobal
noncomputable def D_X4_placeAmongGlobal (s : Sg) (a1 : Int32) : Int32 := (D_X4_placeIn_32 s (s 23 14) a1)
theorem m_X4_placeAmongGlobal (hP : WOK b w H0) {s : Sg} {a1 : Int32} (hN : NN s) : Rx sc g_X4_placeAmongGlobal 1 ((0, [(0, .ref (b + 23)), (1, .int a1)], [])) (wd b w wl H0 s, kn) (some (.int (D_X4_placeAmongGlobal s a1))) (wd b w wl H0 s, kn) := by
  show Rx sc g_X4_placeAmongGlobal 1 (0, [(0, .ref (b + 23)), (1, .int a1)], []) (wd b w wl H0 s, kn) (some (.int (D_X4_placeAmongGlobal s a1))) (wd b w wl H0 s, kn)
  refine rx_k 1 (1, [(0, .ref (b + 23)), (1, .int a1)], [.ref (b + 23)]) (fun _ _ => rfl) ?_
  refine rx_getf rfl rfl (wg_23 hP) rfl ?_
  refine rx_k 1 (5, [(0, .ref (b + 23)), (1, .int a1)], [.ref (b + 23), .ref (b + 32)]) (fun _ _ => rfl) ?_
  refine rx_getf rfl rfl (wg_23 hP) rfl ?_
  refine rx_k 1 (9, [(0, .ref (b + 23)), (1, .int a1)], [.int a1, .int (s 23 14), .ref (b + 32)]) (fun _ _ => rfl) ?_
  refine rx_inv rfl rfl (rc_X4_placeIn_32 hP hN) rfl rfl rfl rfl rfl rfl ?_
  rw [(show (D_X4_placeAmongGlobal s a1) = (D_X4_placeIn_32 s (s 23 14) a1) from rfl)]
  try dsimp only
  exact rx_ri rfl
theorem rc_X4_placeAmongGlobal (hP : WOK b w H0) {s : Sg} {a1 : Int32} (hN : NN s) : Rc sc 2 56 [.ref (b + 23), .int a1] (wd b w wl H0 s, kn) (some (.int (D_X4_placeAmongGlobal s a1))) (wd b w wl H0 s, kn) := rx_mc (m_X4_placeAmongGlobal hP hN) rfl rfl (Nat.ble_eq_true_of_le (Nat.le_refl _)) (Nat.ble_eq_true_of_le (Nat.le_refl _))
-- LinkHarbour$LibraryTable.placeAmongInitialised
noncomputable def D_X4_placeAmongInitialised (s : Sg) (a1 : Int32) : Int32 := (D_X4_placeIn_33 s (s 23 15) a1)
theorem m_X4_placeAmongInitialised (hP : WOK b w H0) {s : Sg} {a1 : Int32} (hN : NN s) : Rx sc g_X4_placeAmongInitialised 1 ((0, [(0, .ref (b + 23)), (1, .int a1)], [])) (wd b w wl H0 s, kn) (some (.int (D_X4_placeAmongInitialised s a1))) (wd b w wl H0 s, kn) := by
  show Rx sc g_X4_placeAmongInitialised 1 (0, [(0, .ref (b + 23)), (1, .int a1)], []) (wd b w wl H0 s, kn) (some (.int (D_X4_placeAmongInitialised s a1))) (wd b w wl H0 s, kn)
  refine rx_k 1 (1, [(0, .ref (b + 23)), (1, .int a1)], [.ref (b + 23)]) (fun _ _ => rfl) ?_
  refine rx_getf rfl rfl (wg_23 hP) rfl ?_
  refine rx_k 1 (5, [(0, .ref (b + 23)), (1, .int a1)], [.ref (b + 23), .ref (b + 33)]) (fun _ _ => rfl) ?_
  refine rx_getf rfl rfl (wg_23 hP) rfl ?_
  refine rx_k 1 (9, [(0, .ref (b + 23)), (1, .int a1)], [.int a1, .int (s 23 15), .ref (b + 33)]) (fun _ _ => rfl) ?_
  refine rx_inv rfl rfl (rc_X4_placeIn_33 hP hN) rfl rfl rfl rfl rfl rfl ?_
  rw [(show (D_X4_placeAmongInitialised s a1) = (D_X4_placeIn_33 s (s 23 15) a1) from rfl)]
  try dsimp only
  exact rx_ri rfl
theorem rc_X4_placeAmongInitialised (hP : WOK b w H0) {s : Sg} {a1 : Int32} (hN : NN s) : Rc sc 2 57 [.ref (b + 23), .int a1] (wd b w wl H0 s, kn) (some (.int (D_X4_placeAmongInitialised s a1))) (wd b w wl H0 s, kn) := rx_mc (m_X4_placeAmongInitialised hP hN) rfl rfl (Nat.ble_eq_true_of_le (Nat.le_refl _)) (Nat.ble_eq_true_of_le (Nat.le_refl _))
-- LinkHarbour$LibraryTable.loaded
def fr_X4_loaded_4 (b w : Nat) (x : Int32 × Int32) : EF := (4, [(0, .ref (b + 23)), (1, .int x.2), (2, .int x.1)], [])
def fe_X4_loaded_4 (b w : Nat) (x : Int32 × Int32) : EF := (30, [(1, .int x.2)], [])
noncomputable def B_X4_loaded_4 (s : Sg) (x : Int32 × Int32) : Bool × (Int32 × Int32) := (if 6 ≤ x.1 then (false, (x.1, x.2)) else (if (D_X4_isLoaded s x.1) = 0 then (true, ((x.1 + 1), x.2)) else (true, ((x.1 + 1), (x.2 ||| (1 <<< (x.1 &&& 31)))))))
theorem b_X4_loaded_4 (hP : WOK b w H0) {s : Sg} (x : Int32 × Int32) (o : Option Value) (h' : EH) (hN : NN s) (hv : 0 ≤ (x.1).toInt) (hc : (B_X4_loaded_4 s x).1 = true → (x.1).toInt < 2147483647 → (B_X4_loaded_4 s x).2.1 = x.1 + 1 → Rx sc g_X4_loaded 3 (fr_X4_loaded_4 b w (B_X4_loaded_4 s x).2) (wd b w wl H0 s, kn) o h') (he : (B_X4_loaded_4 s x).1 = false → Rx sc g_X4_loaded 3 (fe_X4_loaded_4 b w (B_X4_loaded_4 s x).2) (wd b w wl H0 s, kn) o h') : Rx sc g_X4_loaded 3 (fr_X4_loaded_4 b w x) (wd b w wl H0 s, kn) o h' := by
  show Rx sc g_X4_loaded 3 (4, [(0, .ref (b + 23)), (1, .int x.2), (2, .int x.1)], []) (wd b w wl H0 s, kn) o h'
  refine rx_k 2 (7, [(0, .ref (b + 23)), (1, .int x.2), (2, .int x.1)], [.int 6, .int x.1]) (fun _ _ => rfl) ?_
  by_cases c0 : 6 ≤ x.1
  · refine rx_icT rfl (bt c0) ?_
    rw [(show (B_X4_loaded_4 s x) = (false, (x.1, x.2)) from ((if_pos c0).trans rfl))] at he
    dsimp only at he
    exact rx_lo am_X4_loaded (lo := [(1, .int x.2)]) (List.forall_mem_cons.mpr ⟨List.mem_of_getElem? (i := 1) rfl, (fun _ h => absurd h List.not_mem_nil)⟩) rfl (he rfl)
  · refine rx_icF rfl (bf c0) rfl ?_
    refine rx_k 2 (12, [(0, .ref (b + 23)), (1, .int x.2), (2, .int x.1)], [.int x.1, .ref (b + 23)]) (fun _ _ => rfl) ?_
    refine rx_inv rfl rfl (rc_X4_isLoaded hP) rfl rfl rfl (q_recv (wg_23 hP)) rfl rfl ?_
    by_cases c1 : (D_X4_isLoaded s x.1) = 0
    · refine rx_ifT rfl (bt c1) ?_
      refine rx_k 2 (4, [(2, .int (x.1 + 1)), (0, .ref (b + 23)), (1, .int x.2)], []) (fun _ _ => rfl) ?_
      rw [(show (B_X4_loaded_4 s x) = (true, ((x.1 + 1), x.2)) from ((if_neg c0).trans ((if_pos c1).trans rfl)))] at hc
      dsimp only at hc
      refine rx_lo am_X4_loaded (lo := [(0, .ref (b + 23)), (1, .int x.2), (2, .int (x.1 + 1))]) (List.forall_mem_cons.mpr ⟨List.mem_of_getElem? (i := 1) rfl, (List.forall_mem_cons.mpr ⟨List.mem_of_getElem? (i := 2) rfl, (List.forall_mem_cons.mpr ⟨List.mem_of_getElem? (i := 0) rfl, (fun _ h => absurd h List.not_mem_nil)⟩)⟩)⟩) rfl (hc rfl (lt_nle c0) rfl)
    · refine rx_ifF rfl (bf c1) rfl ?_
      refine rx_k 8 (4, [(2, .int (x.1 + 1)), (1, .int (x.2 ||| (1 <<< (x.1 &&& 31)))), (0, .ref (b + 23))], []) (fun _ _ => rfl) ?_
      rw [(show (B_X4_loaded_4 s x) = (true, ((x.1 + 1), (x.2 ||| (1 <<< (x.1 &&& 31))))) from ((if_neg c0).trans ((if_neg c1).trans rfl)))] at hc
      dsimp only at hc
      refine rx_lo am_X4_loaded (lo := [(0, .ref (b + 23)), (1, .int (x.2 ||| (1 <<< (x.1 &&& 31)))), (2, .int (x.1 + 1))]) (List.forall_mem_cons.mpr ⟨List.mem_of_getElem? (i := 2) rfl, (List.forall_mem_cons.mpr ⟨List.mem_of_getElem? (i := 1) rfl, (List.forall_mem_cons.mpr ⟨List.mem_of_getElem? (i := 0) rfl, (fun _ h => absurd h List.not_mem_nil)⟩)⟩)⟩) rfl (hc rfl (lt_nle c0) rfl)
noncomputable def R_X4_loaded_30 (s : Sg) (a1 : Int32) : Int32 := a1
theorem r_X4_loaded_30 (hP : WOK b w H0) {s : Sg} {a1 : Int32} (hN : NN s) : Rx sc g_X4_loaded 3 ((30, [(1, .int a1)], [])) (wd b w wl H0 s, kn) (some (.int (R_X4_loaded_30 s a1))) (wd b w wl H0 s, kn) := by
  show Rx sc g_X4_loaded 3 (30, [(1, .int a1)], []) (wd b w wl H0 s, kn) (some (.int (R_X4_loaded_30 s a1))) (wd b w wl H0 s, kn)
  refine rx_k 1 (31, [(1, .int a1)], [.int a1]) (fun _ _ => rfl) ?_
  rw [(show (R_X4_loaded_30 s a1) = a1 from rfl)]
  try dsimp only
  exact rx_ri rfl
noncomputable def D_X4_loaded (s : Sg) : Int32 := (R_X4_loaded_30 s ((itr (B_X4_loaded_4 s) BIG (0, 0)).2))
theorem m_X4_loaded (hP : WOK b w H0) {s : Sg} (hN : NN s) : Rx sc g_X4_loaded 3 ((0, [(0, .ref (b + 23))], [])) (wd b w wl H0 s, kn) (some (.int (D_X4_loaded s))) (wd b w wl H0 s, kn) := by
  show Rx sc g_X4_loaded 3 (0, [(0, .ref (b + 23))], []) (wd b w wl H0 s, kn) (some (.int (D_X4_loaded s))) (wd b w wl H0 s, kn)
  refine rx_k 4 (4, [(2, .int 0), (1, .int 0), (0, .ref (b + 23))], []) (fun _ _ => rfl) ?_
  refine rx_lo am_X4_loaded (lo := [(0, .ref (b + 23)), (1, .int 0), (2, .int 0)]) (List.forall_mem_cons.mpr ⟨List.mem_of_getElem? (i := 2) rfl, (List.forall_mem_cons.mpr ⟨List.mem_of_getElem? (i := 1) rfl, (List.forall_mem_cons.mpr ⟨List.mem_of_getElem? (i := 0) rfl, (fun _ h => absurd h List.not_mem_nil)⟩)⟩)⟩) rfl ?_
  refine rx_loop (B := B_X4_loaded_4 s) (fr := (fr_X4_loaded_4 b w)) (E := (fe_X4_loaded_4 b w)) (hp := (fun z => (wd b w wl H0 s, kn))) (vr := fun z => z.1) (I := (fun _ => True)) (fun z o1 h1 hI1 hv1 hc1 he1 => b_X4_loaded_4 hP z o1 h1 hN hv1 hc1 he1) (fun _ _ => trivial) BIG (0, 0) _ _ trivial (by decide : (0 : Int) ≤ (0 : Int32).toInt) (le_enough (by decide : (0 : Int) ≤ (0 : Int32).toInt)) ?_
  rw [(show (D_X4_loaded s) = (R_X4_loaded_30 s ((itr (B_X4_loaded_4 s) BIG (0, 0)).2)) from rfl)]
  exact r_X4_loaded_30 hP hN
theorem rc_X4_loaded (hP : WOK b w H0) {s : Sg} (hN : NN s) : Rc sc 4 64 [.ref (b + 23)] (wd b w wl H0 s, kn) (some (.int (D_X4_loaded s))) (wd b w wl H0 s, kn) := rx_mc (m_X4_loaded hP hN) rfl rfl (Nat.ble_eq_true_of_le (Nat.le_refl _)) (Nat.ble_eq_true_of_le (Nat.le_refl _))
-- java/lang/Integer.bitCount
noncomputable def D_J6_bitCount_0f7a4 (a0 : Int32) : Int32 := ((((((((a0 - (((a0.toUInt32 >>> ((1 : Int32).toUInt32 &&& Int32.toUInt32 31)).toInt32) &&& 1431655765)) &&& 858993459) + ((((a0 - (((a0.toUInt32 >>> ((1 : Int32).toUInt32 &&& Int32.toUInt32 31)).toInt32) &&& 1431655765)).toUInt32 >>> ((2 : Int32).toUInt32 &&& Int32.toUInt32 31)).toInt32) &&& 858993459)) + (((((a0 - (((a0.toUInt32 >>> ((1 : Int32).toUInt32 &&& Int32.toUInt32 31)).toInt32) &&& 1431655765)) &&& 858993459) + ((((a0 - (((a0.toUInt32 >>> ((1 : Int32).toUInt32 &&& Int32.toUInt32 31)).toInt32) &&& 1431655765)).toUInt32 >>> ((2 : Int32).toUInt32 &&& Int32.toUInt32 31)).toInt32) &&& 858993459)).toUInt32 >>> ((4 : Int32).toUInt32 &&& Int32.toUInt32 31)).toInt32)) &&& 252645135) + (((((((a0 - (((a0.toUInt32 >>> ((1 : Int32).toUInt32 &&& Int32.toUInt32 31)).toInt32) &&& 1431655765)) &&& 858993459) + ((((a0 - (((a0.toUInt32 >>> ((1 : Int32).toUInt32 &&& Int32.toUInt32 31)).toInt32) &&& 1431655765)).toUInt32 >>> ((2 : Int32).toUInt32 &&& Int32.toUInt32 31)).toInt32) &&& 858993459)) + (((((a0 - (((a0.toUInt32 >>> ((1 : Int32).toUInt32 &&& Int32.toUInt32 31)).toInt32) &&& 1431655765)) &&& 858993459) + ((((a0 - (((a0.toUInt32 >>> ((1 : Int32).toUInt32 &&& Int32.toUInt32 31)).toInt32) &&& 1431655765)).toUInt32 >>> ((2 : Int32).toUInt32 &&& Int32.toUInt32 31)).toInt32) &&& 858993459)).toUInt32 >>> ((4 : Int32).toUInt32 &&& Int32.toUInt32 31)).toInt32)) &&& 252645135).toUInt32 >>> ((8 : Int32).toUInt32 &&& Int32.toUInt32 31)).toInt32)) + ((((((((a0 - (((a0.toUInt32 >>> ((1 : Int32).toUInt32 &&& Int32.toUInt32 31)).toInt32) &&& 1431655765)) &&& 858993459) + ((((a0 - (((a0.toUInt32 >>> ((1 : Int32).toUInt32 &&& Int32.toUInt32 31)).toInt32) &&& 1431655765)).toUInt32 >>> ((2 : Int32).toUInt32 &&& Int32.toUInt32 31)).toInt32) &&& 858993459)) + (((((a0 - (((a0.toUInt32 >>> ((1 : Int32).toUInt32 &&& Int32.toUInt32 31)).toInt32) &&& 1431655765)) &&& 858993459) + ((((a0 - (((a0.toUInt32 >>> ((1 : Int32).toUInt32 &&& Int32.toUInt32 31)).toInt32) &&& 1431655765)).toUInt32 >>> ((2 : Int32).toUInt32 &&& Int32.toUInt32 31)).toInt32) &&& 858993459)).toUInt32 >>> ((4 : Int32).toUInt32 &&& Int32.toUInt32 31)).toInt32)) &&& 252645135) + (((((((a0 - (((a0.toUInt32 >>> ((1 : Int32).toUInt32 &&& Int32.toUInt32 31)).toInt32) &&& 1431655765)) &&& 858993459) + ((((a0 - (((a0.toUInt32 >>> ((1 : Int32).toUInt32 &&& Int32.toUInt32 31)).toInt32) &&& 1431655765)).toUInt32 >>> ((2 : Int32).toUInt32 &&& Int32.toUInt32 31)).toInt32) &&& 858993459)) + (((((a0 - (((a0.toUInt32 >>> ((1 : Int32).toUInt32 &&& Int32.toUInt32 31)).toInt32) &&& 1431655765)) &&& 858993459) + ((((a0 - (((a0.toUInt32 >>> ((1 : Int32).toUInt32 &&& Int32.toUInt32 31)).toInt32) &&& 1431655765)).toUInt32 >>> ((2 : Int32).toUInt32 &&& Int32.toUInt32 31)).toInt32) &&& 858993459)).toUInt32 >>> ((4 : Int32).toUInt32 &&& Int32.toUInt32 31)).toInt32)) &&& 252645135).toUInt32 >>> ((8 : Int32).toUInt32 &&& Int32.toUInt32 31)).toInt32)).toUInt32 >>> ((16 : Int32).toUInt32 &&& Int32.toUInt32 31)).toInt32)) &&& 63)
set_option maxRecDepth 100000 in
theorem m_J6_bitCount_0f7a4 {hh : EH} {a0 : Int32} : Rx sc g_J6_bitCount_0f7a4 0 ((0, [(0, .int a0)], [])) hh (some (.int (D_J6_bitCount_0f7a4 a0))) hh := by
  show Rx sc g_J6_bitCount_0f7a4 0 (0, [(0, .int a0)], []) hh (some (.int (D_J6_bitCount_0f7a4 a0))) hh
  refine rx_k 41 (52, [(0, .int (((((((a0 - (((a0.toUInt32 >>> ((1 : Int32).toUInt32 &&& Int32.toUInt32 31)).toInt32) &&& 1431655765)) &&& 858993459) + ((((a0 - (((a0.toUInt32 >>> ((1 : Int32).toUInt32 &&& Int32.toUInt32 31)).toInt32) &&& 1431655765)).toUInt32 >>> ((2 : Int32).toUInt32 &&& Int32.toUInt32 31)).toInt32) &&& 858993459)) + (((((a0 - (((a0.toUInt32 >>> ((1 : Int32).toUInt32 &&& Int32.toUInt32 31)).toInt32) &&& 1431655765)) &&& 858993459) + ((((a0 - (((a0.toUInt32 >>> ((1 : Int32).toUInt32 &&& Int32.toUInt32 31)).toInt32) &&& 1431655765)).toUInt32 >>> ((2 : Int32).toUInt32 &&& Int32.toUInt32 31)).toInt32) &&& 858993459)).toUInt32 >>> ((4 : Int32).toUInt32 &&& Int32.toUInt32 31)).toInt32)) &&& 252645135) + (((((((a0 - (((a0.toUInt32 >>> ((1 : Int32).toUInt32 &&& Int32.toUInt32 31)).toInt32) &&& 1431655765)) &&& 858993459) + ((((a0 - (((a0.toUInt32 >>> ((1 : Int32).toUInt32 &&& Int32.toUInt32 31)).toInt32) &&& 1431655765)).toUInt32 >>> ((2 : Int32).toUInt32 &&& Int32.toUInt32 31)).toInt32) &&& 858993459)) + (((((a0 - (((a0.toUInt32 >>> ((1 : Int32).toUInt32 &&& Int32.toUInt32 31)).toInt32) &&& 1431655765)) &&& 858993459) + ((((a0 - (((a0.toUInt32 >>> ((1 : Int32).toUInt32 &&& Int32.toUInt32 31)).toInt32) &&& 1431655765)).toUInt32 >>> ((2 : Int32).toUInt32 &&& Int32.toUInt32 31)).toInt32) &&& 858993459)).toUInt32 >>> ((4 : Int32).toUInt32 &&& Int32.toUInt32 31)).toInt32)) &&& 252645135).toUInt32 >>> ((8 : Int32).toUInt32 &&& Int32.toUInt32 31)).toInt32)) + ((((((((a0 - (((a0.toUInt32 >>> ((1 : Int32).toUInt32 &&& Int32.toUInt32 31)).toInt32) &&& 1431655765)) &&& 858993459) + ((((a0 - (((a0.toUInt32 >>> ((1 : Int32).toUInt32 &&& Int32.toUInt32 31)).toInt32) &&& 1431655765)).toUInt32 >>> ((2 : Int32).toUInt32 &&& Int32.toUInt32 31)).toInt32) &&& 858993459)) + (((((a0 - (((a0.toUInt32 >>> ((1 : Int32).toUInt32 &&& Int32.toUInt32 31)).toInt32) &&& 1431655765)) &&& 858993459) + ((((a0 - (((a0.toUInt32 >>> ((1 : Int32).toUInt32 &&& Int32.toUInt32 31)).toInt32) &&& 1431655765)).toUInt32 >>> ((2 : Int32).toUInt32 &&& Int32.toUInt32 31)).toInt32) &&& 858993459)).toUInt32 >>> ((4 : Int32).toUInt32 &&& Int32.toUInt32 31)).toInt32)) &&& 252645135) + (((((((a0 - (((a0.toUInt32 >>> ((1 : Int32).toUInt32 &&& Int32.toUInt32 31)).toInt32) &&& 1431655765)) &&& 858993459) + ((((a0 - (((a0.toUInt32 >>> ((1 : Int32).toUInt32 &&& Int32.toUInt32 31)).toInt32) &&& 1431655765)).toUInt32 >>> ((2 : Int32).toUInt32 &&& Int32.toUInt32 31)).toInt32) &&& 858993459)) + (((((a0 - (((a0.toUInt32 >>> ((1 : Int32).toUInt32 &&& Int32.toUInt32 31)).toInt32) &&& 1431655765)) &&& 858993459) + ((((a0 - (((a0.toUInt32 >>> ((1 : Int32).toUInt32 &&& Int32.toUInt32 31)).toInt32) &&& 1431655765)).toUInt32 >>> ((2 : Int32).toUInt32 &&& Int32.toUInt32 31)).toInt32) &&& 858993459)).toUInt32 >>> ((4 : Int32).toUInt32 &&& Int32.toUInt32 31)).toInt32)) &&& 252645135).toUInt32 >>> ((8 : Int32).toUInt32 &&& Int32.toUInt32 31)).toInt32)).toUInt32 >>> ((16 : Int32).toUInt32 &&& Int32.toUInt32 31)).toInt32)))], [.int ((((((((a0 - (((a0.toUInt32 >>> ((1 : Int32).toUInt32 &&& Int32.toUInt32 31)).toInt32) &&& 1431655765)) &&& 858993459) + ((((a0 - (((a0.toUInt32 >>> ((1 : Int32).toUInt32 &&& Int32.toUInt32 31)).toInt32) &&& 1431655765)).toUInt32 >>> ((2 : Int32).toUInt32 &&& Int32.toUInt32 31)).toInt32) &&& 858993459)) + (((((a0 - (((a0.toUInt32 >>> ((1 : Int32).toUInt32 &&& Int32.toUInt32 31)).toInt32) &&& 1431655765)) &&& 858993459) + ((((a0 - (((a0.toUInt32 >>> ((1 : Int32).toUInt32 &&& Int32.toUInt32 31)).toInt32) &&& 1431655765)).toUInt32 >>> ((2 : Int32).toUInt32 &&& Int32.toUInt32 31)).toInt32) &&& 858993459)).toUInt32 >>> ((4 : Int32).toUInt32 &&& Int32.toUInt32 31)).toInt32)) &&& 252645135) + (((((((a0 - (((a0.toUInt32 >>> ((1 : Int32).toUInt32 &&& Int32.toUInt32 31)).toInt32) &&& 1431655765)) &&& 858993459) + ((((a0 - (((a0.toUInt32 >>> ((1 : Int32).toUInt32 &&& Int32.toUInt32 31)).toInt32) &&& 1431655765)).toUInt32 >>> ((2 : Int32).toUInt32 &&& Int32.toUInt32 31)).toInt32) &&& 858993459)) + (((((a0 - (((a0.toUInt32 >>> ((1 : Int32).toUInt32 &&& Int32.toUInt32 31)).toInt32) &&& 1431655765)) &&& 858993459) + ((((a0 - (((a0.toUInt32 >>> ((1 : Int32).toUInt32 &&& Int32.toUInt32 31)).toInt32) &&& 1431655765)).toUInt32 >>> ((2 : Int32).toUInt32 &&& Int32.toUInt32 31)).toInt32) &&& 858993459)).toUInt32 >>> ((4 : Int32).toUInt32 &&& Int32.toUInt32 31)).toInt32)) &&& 252645135).toUInt32 >>> ((8 : Int32).toUInt32 &&& Int32.toUInt32 31)).toInt32)) + ((((((((a0 - (((a0.toUInt32 >>> ((1 : Int32).toUInt32 &&& Int32.toUInt32 31)).toInt32) &&& 1431655765)) &&& 858993459) + ((((a0 - (((a0.toUInt32 >>> ((1 : Int32).toUInt32 &&& Int32.toUInt32 31)).toInt32) &&& 1431655765)).toUInt32 >>> ((2 : Int32).toUInt32 &&& Int32.toUInt32 31)).toInt32) &&& 858993459)) + (((((a0 - (((a0.toUInt32 >>> ((1 : Int32).toUInt32 &&& Int32.toUInt32 31)).toInt32) &&& 1431655765)) &&& 858993459) + ((((a0 - (((a0.toUInt32 >>> ((1 : Int32).toUInt32 &&& Int32.toUInt32 31)).toInt32) &&& 1431655765)).toUInt32 >>> ((2 : Int32).toUInt32 &&& Int32.toUInt32 31)).toInt32) &&& 858993459)).toUInt32 >>> ((4 : Int32).toUInt32 &&& Int32.toUInt32 31)).toInt32)) &&& 252645135) + (((((((a0 - (((a0.toUInt32 >>> ((1 : Int32).toUInt32 &&& Int32.toUInt32 31)).toInt32) &&& 1431655765)) &&& 858993459) + ((((a0 - (((a0.toUInt32 >>> ((1 : Int32).toUInt32 &&& Int32.toUInt32 31)).toInt32) &&& 1431655765)).toUInt32 >>> ((2 : Int32).toUInt32 &&& Int32.toUInt32 31)).toInt32) &&& 858993459)) + (((((a0 - (((a0.toUInt32 >>> ((1 : Int32).toUInt32 &&& Int32.toUInt32 31)).toInt32) &&& 1431655765)) &&& 858993459) + ((((a0 - (((a0.toUInt32 >>> ((1 : Int32).toUInt32 &&& Int32.toUInt32 31)).toInt32) &&& 1431655765)).toUInt32 >>> ((2 : Int32).toUInt32 &&& Int32.toUInt32 31)).toInt32) &&& 858993459)).toUInt32 >>> ((4 : Int32).toUInt32 &&& Int32.toUInt32 31)).toInt32)) &&& 252645135).toUInt32 >>> ((8 : Int32).toUInt32 &&& Int32.toUInt32 31)).toInt32)).toUInt32 >>> ((16 : Int32).toUInt32 &&& Int32.toUInt32 31)).toInt32)) &&& 63)]) (fun _ _ => rfl) ?_
  rw [(show (D_J6_bitCount_0f7a4 a0) = ((((((((a0 - (((a0.toUInt32 >>> ((1 : Int32).toUInt32 &&& Int32.toUInt32 31)).toInt32) &&& 1431655765)) &&& 858993459) + ((((a0 - (((a0.toUInt32 >>> ((1 : Int32).toUInt32 &&& Int32.toUInt32 31)).toInt32) &&& 1431655765)).toUInt32 >>> ((2 : Int32).toUInt32 &&& Int32.toUInt32 31)).toInt32) &&& 858993459)) + (((((a0 - (((a0.toUInt32 >>> ((1 : Int32).toUInt32 &&& Int32.toUInt32 31)).toInt32) &&& 1431655765)) &&& 858993459) + ((((a0 - (((a0.toUInt32 >>> ((1 : Int32).toUInt32 &&& Int32.toUInt32 31)).toInt32) &&& 1431655765)).toUInt32 >>> ((2 : Int32).toUInt32 &&& Int32.toUInt32 31)).toInt32) &&& 858993459)).toUInt32 >>> ((4 : Int32).toUInt32 &&& Int32.toUInt32 31)).toInt32)) &&& 252645135) + (((((((a0 - (((a0.toUInt32 >>> ((1 : Int32).toUInt32 &&& Int32.toUInt32 31)).toInt32) &&& 1431655765)) &&& 858993459) + ((((a0 - (((a0.toUInt32 >>> ((1 : Int32).toUInt32 &&& Int32.toUInt32 31)).toInt32) &&& 1431655765)).toUInt32 >>> ((2 : Int32).toUInt32 &&& Int32.toUInt32 31)).toInt32) &&& 858993459)) + (((((a0 - (((a0.toUInt32 >>> ((1 : Int32).toUInt32 &&& Int32.toUInt32 31)).toInt32) &&& 1431655765)) &&& 858993459) + ((((a0 - (((a0.toUInt32 >>> ((1 : Int32).toUInt32 &&& Int32.toUInt32 31)).toInt32) &&& 1431655765)).toUInt32 >>> ((2 : Int32).toUInt32 &&& Int32.toUInt32 31)).toInt32) &&& 858993459)).toUInt32 >>> ((4 : Int32).toUInt32 &&& Int32.toUInt32 31)).toInt32)) &&& 252645135).toUInt32 >>> ((8 : Int32).toUInt32 &&& Int32.toUInt32 31)).toInt32)) + ((((((((a0 - (((a0.toUInt32 >>> ((1 : Int32).toUInt32 &&& Int32.toUInt32 31)).toInt32) &&& 1431655765)) &&& 858993459) + ((((a0 - (((a0.toUInt32 >>> ((1 : Int32).toUInt32 &&& Int32.toUInt32 31)).toInt32) &&& 1431655765)).toUInt32 >>> ((2 : Int32).toUInt32 &&& Int32.toUInt32 31)).toInt32) &&& 858993459)) + (((((a0 - (((a0.toUInt32 >>> ((1 : Int32).toUInt32 &&& Int32.toUInt32 31)).toInt32) &&& 1431655765)) &&& 858993459) + ((((a0 - (((a0.toUInt32 >>> ((1 : Int32).toUInt32 &&& Int32.toUInt32 31)).toInt32) &&& 1431655765)).toUInt32 >>> ((2 : Int32).toUInt32 &&& Int32.toUInt32 31)).toInt32) &&& 858993459)).toUInt32 >>> ((4 : Int32).toUInt32 &&& Int32.toUInt32 31)).toInt32)) &&& 252645135) + (((((((a0 - (((a0.toUInt32 >>> ((1 : Int32).toUInt32 &&& Int32.toUInt32 31)).toInt32) &&& 1431655765)) &&& 858993459) + ((((a0 - (((a0.toUInt32 >>> ((1 : Int32).toUInt32 &&& Int32.toUInt32 31)).toInt32) &&& 1431655765)).toUInt32 >>> ((2 : Int32).toUInt32 &&& Int32.toUInt32 31)).toInt32) &&& 858993459)) + (((((a0 - (((a0.toUInt32 >>> ((1 : Int32).toUInt32 &&& Int32.toUInt32 31)).toInt32) &&& 1431655765)) &&& 858993459) + ((((a0 - (((a0.toUInt32 >>> ((1 : Int32).toUInt32 &&& Int32.toUInt32 31)).toInt32) &&& 1431655765)).toUInt32 >>> ((2 : Int32).toUInt32 &&& Int32.toUInt32 31)).toInt32) &&& 858993459)).toUInt32 >>> ((4 : Int32).toUInt32 &&& Int32.toUInt32 31)).toInt32)) &&& 252645135).toUInt32 >>> ((8 : Int32).toUInt32 &&& Int32.toUInt32 31)).toInt32)).toUInt32 >>> ((16 : Int32).toUInt32 &&& Int32.toUInt32 31)).toInt32)) &&& 63) from rfl)]
  try dsimp only
  exact rx_ri rfl
theorem rc_J6_bitCount_0f7a4 {hh : EH} {a0 : Int32} : Rc sc 1 209 [.int a0] hh (some (.int (D_J6_bitCount_0f7a4 a0))) hh := rx_mc (m_J6_bitCount_0f7a4) rfl rfl (Nat.ble_eq_true_of_le (Nat.le_refl _)) (Nat.ble_eq_true_of_le (Nat.le_refl _))
-- LinkHarbour$LibraryTable.countLoaded
noncomputable def D_X4_countLoaded (s : Sg) : Int32 := (D_J6_bitCount_0f7a4 (D_X4_loaded s))
theorem m_X4_countLoaded (hP : WOK b w H0) {s : Sg} (hN : NN s) : Rx sc g_X4_countLoaded 4 ((0, [(0, .ref (b + 23))], [])) (wd b w wl H0 s, kn) (some (.int (D_X4_countLoaded s))) (wd b w wl H0 s, kn) := by
  show Rx sc g_X4_countLoaded 4 (0, [(0, .ref (b + 23))], []) (wd b w wl H0 s, kn) (some (.int (D_X4_countLoaded s))) (wd b w wl H0 s, kn)
  refine rx_k 1 (1, [(0, .ref (b + 23))], [.ref (b + 23)]) (fun _ _ => rfl) ?_
  refine rx_inv rfl rfl (rc_X4_loaded hP hN) rfl rfl rfl (q_recv (wg_23 hP)) rfl rfl ?_
  refine rx_inv rfl rfl (rc_J6_bitCount_0f7a4) rfl rfl rfl rfl rfl rfl ?_
  rw [(show (D_X4_countLoaded s) = (D_J6_bitCount_0f7a4 (D_X4_loaded s)) from rfl)]
  try dsimp only
  exact rx_ri rfl
theorem rc_X4_countLoaded (hP : WOK b w H0) {s : Sg} (hN : NN s) : Rc sc 5 59 [.ref (b + 23)] (wd b w wl H0 s, kn) (some (.int (D_X4_countLoaded s))) (wd b w wl H0 s, kn) := rx_mc (m_X4_countLoaded hP hN) rfl rfl (Nat.ble_eq_true_of_le (Nat.le_refl _)) (Nat.ble_eq_true_of_le (Nat.le_refl _))
-- LinkHarbour$LibraryTable.countGlobal
noncomputable def D_X4_countGlobal (s : Sg) : Int32 := (s 23 14)
theorem m_X4_countGlobal (hP : WOK b w H0) {s : Sg} : Rx sc g_X4_countGlobal 0 ((0, [(0, .ref (b + 23))], [])) (wd b w wl H0 s, kn) (some (.int (D_X4_countGlobal s))) (wd b w wl H0 s, kn) := by
  show Rx sc g_X4_countGlobal 0 (0, [(0, .ref (b + 23))], []) (wd b w wl H0 s, kn) (some (.int (D_X4_countGlobal s))) (wd b w wl H0 s, kn)
  refine rx_k 1 (1, [(0, .ref (b + 23))], [.ref (b + 23)]) (fun _ _ => rfl) ?_
  refine rx_getf rfl rfl (wg_23 hP) rfl ?_
  rw [(show (D_X4_countGlobal s) = (s 23 14) from rfl)]
  try dsimp only
  exact rx_ri rfl
theorem rc_X4_countGlobal (hP : WOK b w H0) {s : Sg} : Rc sc 1 60 [.ref (b + 23)] (wd b w wl H0 s, kn) (some (.int (D_X4_countGlobal s))) (wd b w wl H0 s, kn) := rx_mc (m_X4_countGlobal hP) rfl rfl (Nat.ble_eq_true_of_le (Nat.le_refl _)) (Nat.ble_eq_true_of_le (Nat.le_refl _))
-- LinkHarbour$LibraryTable.countBindings
def fr_X4_countBindings_4 (b w : Nat) (x : Int32 × Int32) : EF := (4, [(0, .ref (b + 23)), (1, .int x.2), (2, .int x.1)], [])
def fe_X4_countBindings_4 (b w : Nat) (x : Int32 × Int32) : EF := (29, [(1, .int x.2)], [])
noncomputable def B_X4_countBindings_4 (s : Sg) (x : Int32 × Int32) : Bool × (Int32 × Int32) := (if 120 ≤ x.1 then (false, (x.1, x.2)) else (if (s 31 x.1.toNatClampNeg) = (-1) then (true, ((x.1 + 1), x.2)) else (true, ((x.1 + 1), (x.2 + 1)))))
theorem b_X4_countBindings_4 (hP : WOK b w H0) {s : Sg} (x : Int32 × Int32) (o : Option Value) (h' : EH) (hN : NN s) (hv : 0 ≤ (x.1).toInt) (hc : (B_X4_countBindings_4 s x).1 = true → (x.1).toInt < 2147483647 → (B_X4_countBindings_4 s x).2.1 = x.1 + 1 → Rx sc g_X4_countBindings 0 (fr_X4_countBindings_4 b w (B_X4_countBindings_4 s x).2) (wd b w wl H0 s, kn) o h') (he : (B_X4_countBindings_4 s x).1 = false → Rx sc g_X4_countBindings 0 (fe_X4_countBindings_4 b w (B_X4_countBindings_4 s x).2) (wd b w wl H0 s, kn) o h') : Rx sc g_X4_countBindings 0 (fr_X4_countBindings_4 b w x) (wd b w wl H0 s, kn) o h' := by
  show Rx sc g_X4_countBindings 0 (4, [(0, .ref (b + 23)), (1, .int x.2), (2, .int x.1)], []) (wd b w wl H0 s, kn) o h'
  refine rx_k 2 (7, [(0, .ref (b + 23)), (1, .int x.2), (2, .int x.1)], [.int 120, .int x.1]) (fun _ _ => rfl) ?_
  by_cases c0 : 120 ≤ x.1
  · refine rx_icT rfl (bt c0) ?_
    rw [(show (B_X4_countBindings_4 s x) = (false, (x.1, x.2)) from ((if_pos c0).trans rfl))] at he
    dsimp only at he
    exact rx_lo am_X4_countBindings (lo := [(1, .int x.2)]) (List.forall_mem_cons.mpr ⟨List.mem_of_getElem? (i := 1) rfl, (fun _ h => absurd h List.not_mem_nil)⟩) rfl (he rfl)
  · refine rx_icF rfl (bf c0) rfl ?_
    refine rx_k 1 (11, [(0, .ref (b + 23)), (1, .int x.2), (2, .int x.1)], [.ref (b + 23)]) (fun _ _ => rfl) ?_
    refine rx_getf rfl rfl (wg_23 hP) rfl ?_
    refine rx_k 1 (15, [(0, .ref (b + 23)), (1, .int x.2), (2, .int x.1)], [.int x.1, .ref (b + 31)]) (fun _ _ => rfl) ?_
    refine rx_ild rfl rfl (wg_31 hP) (ar_at (rg_c hv c0 (m := 120) (n := 120) rfl)) ?_
    refine rx_k 1 (17, [(0, .ref (b + 23)), (1, .int x.2), (2, .int x.1)], [.int (-1), .int (s 31 x.1.toNatClampNeg)]) (fun _ _ => rfl) ?_
    by_cases c1 : (s 31 x.1.toNatClampNeg) = (-1)
    · refine rx_icT rfl (bt c1) ?_
      refine rx_k 2 (4, [(2, .int (x.1 + 1)), (0, .ref (b + 23)), (1, .int x.2)], []) (fun _ _ => rfl) ?_
      rw [(show (B_X4_countBindings_4 s x) = (true, ((x.1 + 1), x.2)) from ((if_neg c0).trans ((if_pos c1).trans rfl)))] at hc
      dsimp only at hc
      refine rx_lo am_X4_countBindings (lo := [(0, .ref (b + 23)), (1, .int x.2), (2, .int (x.1 + 1))]) (List.forall_mem_cons.mpr ⟨List.mem_of_getElem? (i := 1) rfl, (List.forall_mem_cons.mpr ⟨List.mem_of_getElem? (i := 2) rfl, (List.forall_mem_cons.mpr ⟨List.mem_of_getElem? (i := 0) rfl, (fun _ h => absurd h List.not_mem_nil)⟩)⟩)⟩) rfl (hc rfl (lt_nle c0) rfl)
    · refine rx_icF rfl (bf c1) rfl ?_
      refine rx_k 3 (4, [(2, .int (x.1 + 1)), (1, .int (x.2 + 1)), (0, .ref (b + 23))], []) (fun _ _ => rfl) ?_
      rw [(show (B_X4_countBindings_4 s x) = (true, ((x.1 + 1), (x.2 + 1))) from ((if_neg c0).trans ((if_neg c1).trans rfl)))] at hc
      dsimp only at hc
      refine rx_lo am_X4_countBindings (lo := [(0, .ref (b + 23)), (1, .int (x.2 + 1)), (2, .int (x.1 + 1))]) (List.forall_mem_cons.mpr ⟨List.mem_of_getElem? (i := 2) rfl, (List.forall_mem_cons.mpr ⟨List.mem_of_getElem? (i := 1) rfl, (List.forall_mem_cons.mpr ⟨List.mem_of_getElem? (i := 0) rfl, (fun _ h => absurd h List.not_mem_nil)⟩)⟩)⟩) rfl (hc rfl (lt_nle c0) rfl)
noncomputable def R_X4_countBindings_29 (s : Sg) (a1 : Int32) : Int32 := a1
theorem r_X4_countBindings_29 (hP : WOK b w H0) {s : Sg} {a1 : Int32} (hN : NN s) : Rx sc g_X4_countBindings 0 ((29, [(1, .int a1)], [])) (wd b w wl H0 s, kn) (some (.int (R_X4_countBindings_29 s a1))) (wd b w wl H0 s, kn) := by
  show Rx sc g_X4_countBindings 0 (29, [(1, .int a1)], []) (wd b w wl H0 s, kn) (some (.int (R_X4_countBindings_29 s a1))) (wd b w wl H0 s, kn)
  refine rx_k 1 (30, [(1, .int a1)], [.int a1]) (fun _ _ => rfl) ?_
  rw [(show (R_X4_countBindings_29 s a1) = a1 from rfl)]
  try dsimp only
  exact rx_ri rfl
noncomputable def D_X4_countBindings (s : Sg) : Int32 := (R_X4_countBindings_29 s ((itr (B_X4_countBindings_4 s) BIG (0, 0)).2))
theorem m_X4_countBindings (hP : WOK b w H0) {s : Sg} (hN : NN s) : Rx sc g_X4_countBindings 0 ((0, [(0, .ref (b + 23))], [])) (wd b w wl H0 s, kn) (some (.int (D_X4_countBindings s))) (wd b w wl H0 s, kn) := by
  show Rx sc g_X4_countBindings 0 (0, [(0, .ref (b + 23))], []) (wd b w wl H0 s, kn) (some (.int (D_X4_countBindings s))) (wd b w wl H0 s, kn)
  refine rx_k 4 (4, [(2, .int 0), (1, .int 0), (0, .ref (b + 23))], []) (fun _ _ => rfl) ?_
  refine rx_lo am_X4_countBindings (lo := [(0, .ref (b + 23)), (1, .int 0), (2, .int 0)]) (List.forall_mem_cons.mpr ⟨List.mem_of_getElem? (i := 2) rfl, (List.forall_mem_cons.mpr ⟨List.mem_of_getElem? (i := 1) rfl, (List.forall_mem_cons.mpr ⟨List.mem_of_getElem? (i := 0) rfl, (fun _ h => absurd h List.not_mem_nil)⟩)⟩)⟩) rfl ?_
  refine rx_loop (B := B_X4_countBindings_4 s) (fr := (fr_X4_countBindings_4 b w)) (E := (fe_X4_countBindings_4 b w)) (hp := (fun z => (wd b w wl H0 s, kn))) (vr := fun z => z.1) (I := (fun _ => True)) (fun z o1 h1 hI1 hv1 hc1 he1 => b_X4_countBindings_4 hP z o1 h1 hN hv1 hc1 he1) (fun _ _ => trivial) BIG (0, 0) _ _ trivial (by decide : (0 : Int) ≤ (0 : Int32).toInt) (le_enough (by decide : (0 : Int) ≤ (0 : Int32).toInt)) ?_
  rw [(show (D_X4_countBindings s) = (R_X4_countBindings_29 s ((itr (B_X4_countBindings_4 s) BIG (0, 0)).2)) from rfl)]
  exact r_X4_countBindings_29 hP hN
theorem rc_X4_countBindings (hP : WOK b w H0) {s : Sg} (hN : NN s) : Rc sc 1 61 [.ref (b + 23)] (wd b w wl H0 s, kn) (some (.int (D_X4_countBindings s))) (wd b w wl H0 s, kn) := rx_mc (m_X4_countBindings hP hN) rfl rfl (Nat.ble_eq_true_of_le (Nat.le_refl _)) (Nat.ble_eq_true_of_le (Nat.le_refl _))
-- LinkHarbour$Reaching.imports
noncomputable def D_X7_imports (q : Nat) (s : Sg) : Int32 := (s (q + 12) 7)
theorem m_X7_imports (hP : WOK b w H0) {q : Nat} (hq : q = 38 ∨ q = 60) {s : Sg} : Rx sc g_X7_imports 0 ((0, [(0, .ref (b + (q + 12)))], [])) (wd b w wl H0 s, kn) (some (.int (D_X7_imports q s))) (wd b w wl H0 s, kn) := by
  show Rx sc g_X7_imports 0 (0, [(0, .ref (b + (q + 12)))], []) (wd b w wl H0 s, kn) (some (.int (D_X7_imports q s))) (wd b w wl H0 s, kn)
  refine rx_k 1 (1, [(0, .ref (b + (q + 12)))], [.ref (b + (q + 12))]) (fun _ _ => rfl) ?_
  refine rx_getf rfl rfl (wl_12 hP hq) rfl ?_
  rw [(show (D_X7_imports q s) = (s (q + 12) 7) from rfl)]
  try dsimp only
  exact rx_ri rfl
theorem rc_X7_imports (hP : WOK b w H0) {q : Nat} (hq : q = 38 ∨ q = 60) {s : Sg} : Rc sc 1 108 [.ref (b + (q + 12))] (wd b w wl H0 s, kn) (some (.int (D_X7_imports q s))) (wd b w wl H0 s, kn) := rx_mc (m_X7_imports hP hq) rfl rfl (Nat.ble_eq_true_of_le (Nat.le_refl _)) (Nat.ble_eq_true_of_le (Nat.le_refl _))
-- LinkHarbour$Settling.isHidden
noncomputable def D_X9_isHidden (q : Nat) (s : Sg) (a1 : Int32) : Int32 := (if (D_X11_isName a1) = 0 then 0 else (if (D_X11_hasBit (s (q + 5) 8) a1) = 0 then 0 else 1))
theorem m_X9_isHidden (hP : WOK b w H0) {q : Nat} (hq : q = 38 ∨ q = 60) {s : Sg} {a1 : Int32} : Rx sc g_X9_isHidden 1 ((0, [(0, .ref (b + (q + 5))), (1, .int a1)], [])) (wd b w wl H0 s, kn) (some (.int (D_X9_isHidden q s a1))) (wd b w wl H0 s, kn) := by
  show Rx sc g_X9_isHidden 1 (0, [(0, .ref (b + (q + 5))), (1, .int a1)], []) (wd b w wl H0 s, kn) (some (.int (D_X9_isHidden q s a1))) (wd b w wl H0 s, kn)
  refine rx_k 1 (1, [(0, .ref (b + (q + 5))), (1, .int a1)], [.int a1]) (fun _ _ => rfl) ?_
  refine rx_inv rfl rfl (rc_X11_isName) rfl rfl rfl rfl rfl rfl ?_
  by_cases c0 : (D_X11_isName a1) = 0
  · refine rx_ifT rfl (bt c0) ?_
    refine rx_k 1 (23, [(0, .ref (b + (q + 5))), (1, .int a1)], [.int 0]) (fun _ _ => rfl) ?_
    rw [(show (D_X9_isHidden q s a1) = 0 from ((if_pos c0).trans rfl))]
    try dsimp only
    exact rx_ri rfl
  · refine rx_ifF rfl (bf c0) rfl ?_
    refine rx_k 1 (8, [(0, .ref (b + (q + 5))), (1, .int a1)], [.ref (b + (q + 5))]) (fun _ _ => rfl) ?_
    refine rx_getf rfl rfl (wl_5 hP hq) rfl ?_
    refine rx_k 1 (12, [(0, .ref (b + (q + 5))), (1, .int a1)], [.int a1, .int (s (q + 5) 8)]) (fun _ _ => rfl) ?_
    refine rx_inv rfl rfl (rc_X11_hasBit) rfl rfl rfl rfl rfl rfl ?_
    by_cases c1 : (D_X11_hasBit (s (q + 5) 8) a1) = 0
    · refine rx_ifT rfl (bt c1) ?_
      refine rx_k 1 (23, [(0, .ref (b + (q + 5))), (1, .int a1)], [.int 0]) (fun _ _ => rfl) ?_
      rw [(show (D_X9_isHidden q s a1) = 0 from ((if_neg c0).trans ((if_pos c1).trans rfl)))]
      try dsimp only
      exact rx_ri rfl
    · refine rx_ifF rfl (bf c1) rfl ?_
      refine rx_k 2 (23, [(0, .ref (b + (q + 5))), (1, .int a1)], [.int 1]) (fun _ _ => rfl) ?_
      rw [(show (D_X9_isHidden q s a1) = 1 from ((if_neg c0).trans ((if_neg c1).trans rfl)))]
      try dsimp only
      exact rx_ri rfl
theorem bz_X9_isHidden {q : Nat} {s : Sg} {a1 : Int32} : bz (D_X9_isHidden q s a1) = true := by
  by_cases c0 : (D_X11_isName a1) = 0
  · rw [show (D_X9_isHidden q s a1) = 0 from ((if_pos c0).trans rfl)]
    exact rfl
  · by_cases c1 : (D_X11_hasBit (s (q + 5) 8) a1) = 0
    · rw [show (D_X9_isHidden q s a1) = 0 from ((if_neg c0).trans ((if_pos c1).trans rfl))]
      exact rfl
    · rw [show (D_X9_isHidden q s a1) = 1 from ((if_neg c0).trans ((if_neg c1).trans rfl))]
      exact rfl
theorem rc_X9_isHidden (hP : WOK b w H0) {q : Nat} (hq : q = 38 ∨ q = 60) {s : Sg} {a1 : Int32} : Rc sc 2 144 [.ref (b + (q + 5)), .int a1] (wd b w wl H0 s, kn) (some (.int (D_X9_isHidden q s a1))) (wd b w wl H0 s, kn) := rx_mc (m_X9_isHidden hP hq) rfl (bz_X9_isHidden ..) (Nat.ble_eq_true_of_le (Nat.le_refl _)) (Nat.ble_eq_true_of_le (Nat.le_refl _))
-- LinkHarbour$LibraryTable.add
def fr_X4_add_67 (b w : Nat) (a3 : Int32) (x : Int32 × Sg) : EF := (67, [(0, .ref (b + 23)), (1, .ref (b + 38)), (3, .int a3), (4, .int x.1)], [])
def fe_X4_add_67 (b w : Nat) (a3 : Int32) (x : Int32 × Sg) : EF := (136, [(3, .int a3)], [])
noncomputable def B_X4_add_67 (a3 : Int32) (x : Int32 × Sg) : Bool × (Int32 × Sg) := (if 20 ≤ x.1 then (false, (x.1, x.2)) else (if (D_X3_addressOfName 38 x.2 x.1) = (-1) then (true, ((x.1 + 1), x.2)) else (if (D_X9_isHidden 38 x.2 x.1) = 0 then (true, ((x.1 + 1), (up (up x.2 26 a3.toNatClampNeg ((x.2 26 a3.toNatClampNeg) ||| (1 <<< (x.1 &&& 31)))) 28 ((a3 * 20) + x.1).toNatClampNeg (D_X3_addressOfName 38 x.2 x.1)))) else (true, ((x.1 + 1), x.2)))))
theorem b_X4_add_67 (hP : WOK b w H0) {a3 : Int32} (h3 : rg a3 6) (x : Int32 × Sg) (o : Option Value) (h' : EH) (hN : NN x.2) (hv : 0 ≤ (x.1).toInt) (hc : (B_X4_add_67 a3 x).1 = true → (x.1).toInt < 2147483647 → (B_X4_add_67 a3 x).2.1 = x.1 + 1 → Rx sc g_X4_add 2 (fr_X4_add_67 b w a3 (B_X4_add_67 a3 x).2) (wd b w wl H0 (B_X4_add_67 a3 x).2.2, kn) o h') (he : (B_X4_add_67 a3 x).1 = false → Rx sc g_X4_add 2 (fe_X4_add_67 b w a3 (B_X4_add_67 a3 x).2) (wd b w wl H0 (B_X4_add_67 a3 x).2.2, kn) o h') : Rx sc g_X4_add 2 (fr_X4_add_67 b w a3 x) (wd b w wl H0 x.2, kn) o h' := by
  show Rx sc g_X4_add 2 (67, [(0, .ref (b + 23)), (1, .ref (b + 38)), (3, .int a3), (4, .int x.1)], []) (wd b w wl H0 x.2, kn) o h'
  refine rx_k 2 (71, [(0, .ref (b + 23)), (1, .ref (b + 38)), (3, .int a3), (4, .int x.1)], [.int 20, .int x.1]) (fun _ _ => rfl) ?_
  by_cases c0 : 20 ≤ x.1
  · refine rx_icT rfl (bt c0) ?_
    rw [(show (B_X4_add_67 a3 x) = (false, (x.1, x.2)) from ((if_pos c0).trans rfl))] at he
    dsimp only at he
    exact rx_lo am_X4_add (lo := [(3, .int a3)]) (List.forall_mem_cons.mpr ⟨List.mem_of_getElem? (i := 2) rfl, (fun _ h => absurd h List.not_mem_nil)⟩) rfl (he rfl)
  · refine rx_icF rfl (bf c0) rfl ?_
    refine rx_k 1 (75, [(0, .ref (b + 23)), (1, .ref (b + 38)), (3, .int a3), (4, .int x.1)], [.ref (b + 38)]) (fun _ _ => rfl) ?_
    refine rx_getf rfl rfl (wl_0 hP (Or.inl rfl)) rfl ?_
    refine rx_k 1 (80, [(0, .ref (b + 23)), (1, .ref (b + 38)), (3, .int a3), (4, .int x.1)], [.int x.1, .ref (b + (38 + 15))]) (fun _ _ => rfl) ?_
    refine rx_inv rfl rfl (rc_X3_addressOfName hP (Or.inl rfl)) rfl rfl rfl (q_recv (wl_15 hP (Or.inl rfl))) rfl rfl ?_
    refine rx_k 3 (88, [(5, .int (D_X3_addressOfName 38 x.2 x.1)), (0, .ref (b + 23)), (1, .ref (b + 38)), (3, .int a3), (4, .int x.1)], [.int (-1), .int (D_X3_addressOfName 38 x.2 x.1)]) (fun _ _ => rfl) ?_
    by_cases c1 : (D_X3_addressOfName 38 x.2 x.1) = (-1)
    · refine rx_icT rfl (bt c1) ?_
      refine rx_k 2 (67, [(4, .int (x.1 + 1)), (5, .int (D_X3_addressOfName 38 x.2 x.1)), (0, .ref (b + 23)), (1, .ref (b + 38)), (3, .int a3)], []) (fun _ _ => rfl) ?_
      rw [(show (B_X4_add_67 a3 x) = (true, ((x.1 + 1), x.2)) from ((if_neg c0).trans ((if_pos c1).trans rfl)))] at hc
      dsimp only at hc
      refine rx_lo am_X4_add (lo := [(0, .ref (b + 23)), (1, .ref (b + 38)), (3, .int a3), (4, .int (x.1 + 1))]) (List.forall_mem_cons.mpr ⟨List.mem_of_getElem? (i := 2) rfl, (List.forall_mem_cons.mpr ⟨List.mem_of_getElem? (i := 3) rfl, (List.forall_mem_cons.mpr ⟨List.mem_of_getElem? (i := 4) rfl, (List.forall_mem_cons.mpr ⟨List.mem_of_getElem? (i := 0) rfl, (fun _ h => absurd h List.not_mem_nil)⟩)⟩)⟩)⟩) rfl (hc rfl (lt_nle c0) rfl)
    · refine rx_icF rfl (bf c1) rfl ?_
      refine rx_k 1 (92, [(5, .int (D_X3_addressOfName 38 x.2 x.1)), (0, .ref (b + 23)), (1, .ref (b + 38)), (3, .int a3), (4, .int x.1)], [.ref (b + 38)]) (fun _ _ => rfl) ?_
      refine rx_getf rfl rfl (wl_0 hP (Or.inl rfl)) rfl ?_
      refine rx_k 1 (97, [(5, .int (D_X3_addressOfName 38 x.2 x.1)), (0, .ref (b + 23)), (1, .ref (b + 38)), (3, .int a3), (4, .int x.1)], [.int x.1, .ref (b + (38 + 5))]) (fun _ _ => rfl) ?_
      refine rx_inv rfl rfl (rc_X9_isHidden hP (Or.inl rfl)) rfl rfl rfl (q_recv (wl_5 hP (Or.inl rfl))) rfl rfl ?_
      by_cases c2 : (D_X9_isHidden 38 x.2 x.1) = 0
      · refine rx_ifF rfl (nf c2) rfl ?_
        refine rx_k 1 (104, [(5, .int (D_X3_addressOfName 38 x.2 x.1)), (0, .ref (b + 23)), (1, .ref (b + 38)), (3, .int a3), (4, .int x.1)], [.ref (b + 23)]) (fun _ _ => rfl) ?_
        refine rx_getf rfl rfl (wg_23 hP) rfl ?_
        refine rx_k 2 (109, [(5, .int (D_X3_addressOfName 38 x.2 x.1)), (0, .ref (b + 23)), (1, .ref (b + 38)), (3, .int a3), (4, .int x.1)], [.int a3, .ref (b + 26), .int a3, .ref (b + 26)]) (fun _ _ => rfl) ?_
        refine rx_ild rfl rfl (wg_26 hP) (ar_at h3) ?_
        refine rx_k 4 (115, [(5, .int (D_X3_addressOfName 38 x.2 x.1)), (0, .ref (b + 23)), (1, .ref (b + 38)), (3, .int a3), (4, .int x.1)], [.int ((x.2 26 a3.toNatClampNeg) ||| (1 <<< (x.1 &&& 31))), .int a3, .ref (b + 26)]) (fun _ _ => rfl) ?_
        refine rx_ist rfl rfl (wg_26 hP) rfl (ar_at h3) (ws_26 hP h3) ?_
        refine rx_k 1 (117, [(5, .int (D_X3_addressOfName 38 x.2 x.1)), (0, .ref (b + 23)), (1, .ref (b + 38)), (3, .int a3), (4, .int x.1)], [.ref (b + 23)]) (fun _ _ => rfl) ?_
        refine rx_getf rfl rfl (wg_23 hP) rfl ?_
        refine rx_k 6 (129, [(5, .int (D_X3_addressOfName 38 x.2 x.1)), (0, .ref (b + 23)), (1, .ref (b + 38)), (3, .int a3), (4, .int x.1)], [.int (D_X3_addressOfName 38 x.2 x.1), .int ((a3 * 20) + x.1), .ref (b + 28)]) (fun _ _ => rfl) ?_
        refine rx_ist rfl rfl (wg_28 hP) rfl (ar_at (i_mul_add 20 20 rfl h3 (rg_c hv c0 (m := 20) (n := 20) rfl) (by decide) (by decide))) (ws_28 hP (i_mul_add 20 20 rfl h3 (rg_c hv c0 (m := 20) (n := 20) rfl) (by decide) (by decide))) ?_
        refine rx_k 2 (67, [(4, .int (x.1 + 1)), (5, .int (D_X3_addressOfName 38 x.2 x.1)), (0, .ref (b + 23)), (1, .ref (b + 38)), (3, .int a3)], []) (fun _ _ => rfl) ?_
        rw [(show (B_X4_add_67 a3 x) = (true, ((x.1 + 1), (up (up x.2 26 a3.toNatClampNeg ((x.2 26 a3.toNatClampNeg) ||| (1 <<< (x.1 &&& 31)))) 28 ((a3 * 20) + x.1).toNatClampNeg (D_X3_addressOfName 38 x.2 x.1)))) from ((if_neg c0).trans ((if_neg c1).trans ((if_pos c2).trans rfl))))] at hc
        dsimp only at hc
        refine rx_lo am_X4_add (lo := [(0, .ref (b + 23)), (1, .ref (b + 38)), (3, .int a3), (4, .int (x.1 + 1))]) (List.forall_mem_cons.mpr ⟨List.mem_of_getElem? (i := 2) rfl, (List.forall_mem_cons.mpr ⟨List.mem_of_getElem? (i := 3) rfl, (List.forall_mem_cons.mpr ⟨List.mem_of_getElem? (i := 4) rfl, (List.forall_mem_cons.mpr ⟨List.mem_of_getElem? (i := 0) rfl, (fun _ h => absurd h List.not_mem_nil)⟩)⟩)⟩)⟩) rfl (hc rfl (lt_nle c0) rfl)
      · refine rx_ifT rfl (nt c2) ?_
        refine rx_k 2 (67, [(4, .int (x.1 + 1)), (5, .int (D_X3_addressOfName 38 x.2 x.1)), (0, .ref (b + 23)), (1, .ref (b + 38)), (3, .int a3)], []) (fun _ _ => rfl) ?_
        rw [(show (B_X4_add_67 a3 x) = (true, ((x.1 + 1), x.2)) from ((if_neg c0).trans ((if_neg c1).trans ((if_neg c2).trans rfl))))] at hc
        dsimp only at hc
        refine rx_lo am_X4_add (lo := [(0, .ref (b + 23)), (1, .ref (b + 38)), (3, .int a3), (4, .int (x.1 + 1))]) (List.forall_mem_cons.mpr ⟨List.mem_of_getElem? (i := 2) rfl, (List.forall_mem_cons.mpr ⟨List.mem_of_getElem? (i := 3) rfl, (List.forall_mem_cons.mpr ⟨List.mem_of_getElem? (i := 4) rfl, (List.forall_mem_cons.mpr ⟨List.mem_of_getElem? (i := 0) rfl, (fun _ h => absurd h List.not_mem_nil)⟩)⟩)⟩)⟩) rfl (hc rfl (lt_nle c0) rfl)
theorem nb_X4_add_67 {a3 : Int32} (x : Int32 × Sg) (hN : NN x.2) : NN ((B_X4_add_67 a3 x).2.2) := by
  by_cases c0 : 20 ≤ x.1
  · rw [show (B_X4_add_67 a3 x) = (false, (x.1, x.2)) from ((if_pos c0).trans rfl)]
    try dsimp only
    exact hN
  · by_cases c1 : (D_X3_addressOfName 38 x.2 x.1) = (-1)
    · rw [show (B_X4_add_67 a3 x) = (true, ((x.1 + 1), x.2)) from ((if_neg c0).trans ((if_pos c1).trans rfl))]
      try dsimp only
      exact hN
    · by_cases c2 : (D_X9_isHidden 38 x.2 x.1) = 0
      · rw [show (B_X4_add_67 a3 x) = (true, ((x.1 + 1), (up (up x.2 26 a3.toNatClampNeg ((x.2 26 a3.toNatClampNeg) ||| (1 <<< (x.1 &&& 31)))) 28 ((a3 * 20) + x.1).toNatClampNeg (D_X3_addressOfName 38 x.2 x.1)))) from ((if_neg c0).trans ((if_neg c1).trans ((if_pos c2).trans rfl)))]
        try dsimp only
        exact (nn_0 rfl (nn_0 rfl hN))
      · rw [show (B_X4_add_67 a3 x) = (true, ((x.1 + 1), x.2)) from ((if_neg c0).trans ((if_neg c1).trans ((if_neg c2).trans rfl)))]
        try dsimp only
        exact hN
noncomputable def R_X4_add_136 (s : Sg) (a3 : Int32) : Int32 × Sg := (a3, s)
theorem r_X4_add_136 (hP : WOK b w H0) {s : Sg} {a3 : Int32} (h3 : rg a3 6) (hN : NN s) : Rx sc g_X4_add 2 ((136, [(3, .int a3)], [])) (wd b w wl H0 s, kn) (some (.int (R_X4_add_136 s a3).1)) (wd b w wl H0 (R_X4_add_136 s a3).2, kn) := by
  show Rx sc g_X4_add 2 (136, [(3, .int a3)], []) (wd b w wl H0 s, kn) (some (.int (R_X4_add_136 s a3).1)) (wd b w wl H0 (R_X4_add_136 s a3).2, kn)
  refine rx_k 1 (137, [(3, .int a3)], [.int a3]) (fun _ _ => rfl) ?_
  rw [(show (R_X4_add_136 s a3) = (a3, s) from rfl)]
  try dsimp only
  exact rx_ri rfl
theorem nr_X4_add_136 {s : Sg} {a3 : Int32} (hN : NN s) : NN ((R_X4_add_136 s a3).2) := by
  rw [show (R_X4_add_136 s a3) = (a3, s) from rfl]
  try dsimp only
  exact hN
noncomputable def D_X4_add (s : Sg) (a2 : Int32) : Int32 × Sg := (if (D_X4_isFull s) = 0 then (R_X4_add_136 ((itr (B_X4_add_67 (s 23 13)) BIG (0, (up (up (up (up (up s 23 13 ((s 23 13) + 1)) 24 (s 23 13).toNatClampNeg (D_X3_size 38 (up s 23 13 ((s 23 13) + 1)))) 25 (s 23 13).toNatClampNeg a2) 27 (s 23 13).toNatClampNeg (D_X7_imports 38 (up (up (up s 23 13 ((s 23 13) + 1)) 24 (s 23 13).toNatClampNeg (D_X3_size 38 (up s 23 13 ((s 23 13) + 1)))) 25 (s 23 13).toNatClampNeg a2))) 26 (s 23 13).toNatClampNeg 0))).2) (s 23 13)) else ((-1), s))
theorem m_X4_add (hP : WOK b w H0) {s : Sg} {a2 : Int32} (hN : NN s) : Rx sc g_X4_add 2 ((0, [(0, .ref (b + 23)), (1, .ref (b + 38)), (2, .int a2)], [])) (wd b w wl H0 s, kn) (some (.int (D_X4_add s a2).1)) (wd b w wl H0 (D_X4_add s a2).2, kn) := by
  show Rx sc g_X4_add 2 (0, [(0, .ref (b + 23)), (1, .ref (b + 38)), (2, .int a2)], []) (wd b w wl H0 s, kn) (some (.int (D_X4_add s a2).1)) (wd b w wl H0 (D_X4_add s a2).2, kn)
  refine rx_k 1 (1, [(0, .ref (b + 23)), (1, .ref (b + 38)), (2, .int a2)], [.ref (b + 23)]) (fun _ _ => rfl) ?_
  refine rx_inv rfl rfl (rc_X4_isFull hP) rfl rfl rfl (q_recv (wg_23 hP)) rfl rfl ?_
  by_cases c0 : (D_X4_isFull s) = 0
  · refine rx_ifT rfl (bt c0) ?_
    refine rx_k 1 (10, [(0, .ref (b + 23)), (1, .ref (b + 38)), (2, .int a2)], [.ref (b + 23)]) (fun _ _ => rfl) ?_
    refine rx_getf rfl rfl (wg_23 hP) rfl ?_
    refine rx_k 3 (16, [(3, .int (s 23 13)), (0, .ref (b + 23)), (1, .ref (b + 38)), (2, .int a2)], [.ref (b + 23), .ref (b + 23)]) (fun _ _ => rfl) ?_
    refine rx_getf rfl rfl (wg_23 hP) rfl ?_
    refine rx_k 2 (21, [(3, .int (s 23 13)), (0, .ref (b + 23)), (1, .ref (b + 38)), (2, .int a2)], [.int ((s 23 13) + 1), .ref (b + 23)]) (fun _ _ => rfl) ?_
    refine rx_putf rfl rfl (wg_23 hP) rfl (ws_23_13 hP) ?_
    refine rx_k 1 (25, [(3, .int (s 23 13)), (0, .ref (b + 23)), (1, .ref (b + 38)), (2, .int a2)], [.ref (b + 23)]) (fun _ _ => rfl) ?_
    refine rx_getf rfl rfl (wg_23 hP) rfl ?_
    refine rx_k 2 (30, [(3, .int (s 23 13)), (0, .ref (b + 23)), (1, .ref (b + 38)), (2, .int a2)], [.ref (b + 38), .int (s 23 13), .ref (b + 24)]) (fun _ _ => rfl) ?_
    refine rx_getf rfl rfl (wl_0 hP (Or.inl rfl)) rfl ?_
    refine rx_inv rfl rfl (rc_X3_size hP (Or.inl rfl)) rfl rfl rfl (q_recv (wl_15 hP (Or.inl rfl))) rfl rfl ?_
    refine rx_ist rfl rfl (wg_24 hP) rfl (ar_at (rg_c (hN 23 13 rfl) (nf_X4_isFull c0) (m := 6) (n := 6) rfl)) (ws_24 hP (rg_c (hN 23 13 rfl) (nf_X4_isFull c0) (m := 6) (n := 6) rfl)) ?_
    refine rx_k 1 (38, [(3, .int (s 23 13)), (0, .ref (b + 23)), (1, .ref (b + 38)), (2, .int a2)], [.ref (b + 23)]) (fun _ _ => rfl) ?_
    refine rx_getf rfl rfl (wg_23 hP) rfl ?_
    refine rx_k 2 (43, [(3, .int (s 23 13)), (0, .ref (b + 23)), (1, .ref (b + 38)), (2, .int a2)], [.int a2, .int (s 23 13), .ref (b + 25)]) (fun _ _ => rfl) ?_
    refine rx_ist rfl rfl (wg_25 hP) rfl (ar_at (rg_c (hN 23 13 rfl) (nf_X4_isFull c0) (m := 6) (n := 6) rfl)) (ws_25 hP (rg_c (hN 23 13 rfl) (nf_X4_isFull c0) (m := 6) (n := 6) rfl)) ?_
    refine rx_k 1 (45, [(3, .int (s 23 13)), (0, .ref (b + 23)), (1, .ref (b + 38)), (2, .int a2)], [.ref (b + 23)]) (fun _ _ => rfl) ?_
    refine rx_getf rfl rfl (wg_23 hP) rfl ?_
    refine rx_k 2 (50, [(3, .int (s 23 13)), (0, .ref (b + 23)), (1, .ref (b + 38)), (2, .int a2)], [.ref (b + 38), .int (s 23 13), .ref (b + 27)]) (fun _ _ => rfl) ?_
    refine rx_getf rfl rfl (wl_0 hP (Or.inl rfl)) rfl ?_
    refine rx_inv rfl rfl (rc_X7_imports hP (Or.inl rfl)) rfl rfl rfl (q_recv (wl_12 hP (Or.inl rfl))) rfl rfl ?_
    refine rx_ist rfl rfl (wg_27 hP) rfl (ar_at (rg_c (hN 23 13 rfl) (nf_X4_isFull c0) (m := 6) (n := 6) rfl)) (ws_27 hP (rg_c (hN 23 13 rfl) (nf_X4_isFull c0) (m := 6) (n := 6) rfl)) ?_
    refine rx_k 1 (58, [(3, .int (s 23 13)), (0, .ref (b + 23)), (1, .ref (b + 38)), (2, .int a2)], [.ref (b + 23)]) (fun _ _ => rfl) ?_
    refine rx_getf rfl rfl (wg_23 hP) rfl ?_
    refine rx_k 2 (63, [(3, .int (s 23 13)), (0, .ref (b + 23)), (1, .ref (b + 38)), (2, .int a2)], [.int 0, .int (s 23 13), .ref (b + 26)]) (fun _ _ => rfl) ?_
    refine rx_ist rfl rfl (wg_26 hP) rfl (ar_at (rg_c (hN 23 13 rfl) (nf_X4_isFull c0) (m := 6) (n := 6) rfl)) (ws_26 hP (rg_c (hN 23 13 rfl) (nf_X4_isFull c0) (m := 6) (n := 6) rfl)) ?_
    refine rx_k 2 (67, [(4, .int 0), (3, .int (s 23 13)), (0, .ref (b + 23)), (1, .ref (b + 38)), (2, .int a2)], []) (fun _ _ => rfl) ?_
    refine rx_lo am_X4_add (lo := [(0, .ref (b + 23)), (1, .ref (b + 38)), (3, .int (s 23 13)), (4, .int 0)]) (List.forall_mem_cons.mpr ⟨List.mem_of_getElem? (i := 2) rfl, (List.forall_mem_cons.mpr ⟨List.mem_of_getElem? (i := 3) rfl, (List.forall_mem_cons.mpr ⟨List.mem_of_getElem? (i := 1) rfl, (List.forall_mem_cons.mpr ⟨List.mem_of_getElem? (i := 0) rfl, (fun _ h => absurd h List.not_mem_nil)⟩)⟩)⟩)⟩) rfl ?_
    refine rx_loop (B := B_X4_add_67 (s 23 13)) (fr := (fr_X4_add_67 b w (s 23 13))) (E := (fe_X4_add_67 b w (s 23 13))) (hp := (fun z => (wd b w wl H0 z.2, kn))) (vr := fun z => z.1) (I := (fun z => NN z.2)) (fun z o1 h1 hI1 hv1 hc1 he1 => b_X4_add_67 hP (rg_c (hN 23 13 rfl) (nf_X4_isFull c0) (m := 6) (n := 6) rfl) z o1 h1 hI1 hv1 hc1 he1) (fun z hz => nb_X4_add_67 z hz) BIG (0, (up (up (up (up (up s 23 13 ((s 23 13) + 1)) 24 (s 23 13).toNatClampNeg (D_X3_size 38 (up s 23 13 ((s 23 13) + 1)))) 25 (s 23 13).toNatClampNeg a2) 27 (s 23 13).toNatClampNeg (D_X7_imports 38 (up (up (up s 23 13 ((s 23 13) + 1)) 24 (s 23 13).toNatClampNeg (D_X3_size 38 (up s 23 13 ((s 23 13) + 1)))) 25 (s 23 13).toNatClampNeg a2))) 26 (s 23 13).toNatClampNeg 0)) _ _ (nn_0 rfl (nn_0 rfl (nn_0 rfl (nn_0 rfl (nn_c (nn_inc (rg_c (hN 23 13 rfl) (nf_X4_isFull c0) (m := 6) (n := 6) rfl).1 (lt_nle (nf_X4_isFull c0)) (by decide)) hN))))) (by decide : (0 : Int) ≤ (0 : Int32).toInt) (le_enough (by decide : (0 : Int) ≤ (0 : Int32).toInt)) ?_
    rw [(show (D_X4_add s a2) = (R_X4_add_136 ((itr (B_X4_add_67 (s 23 13)) BIG (0, (up (up (up (up (up s 23 13 ((s 23 13) + 1)) 24 (s 23 13).toNatClampNeg (D_X3_size 38 (up s 23 13 ((s 23 13) + 1)))) 25 (s 23 13).toNatClampNeg a2) 27 (s 23 13).toNatClampNeg (D_X7_imports 38 (up (up (up s 23 13 ((s 23 13) + 1)) 24 (s 23 13).toNatClampNeg (D_X3_size 38 (up s 23 13 ((s 23 13) + 1)))) 25 (s 23 13).toNatClampNeg a2))) 26 (s 23 13).toNatClampNeg 0))).2) (s 23 13)) from ((if_pos c0).trans rfl))]
    exact r_X4_add_136 hP (rg_c (hN 23 13 rfl) (nf_X4_isFull c0) (m := 6) (n := 6) rfl) (itr_inv (B := B_X4_add_67 (s 23 13)) (I := fun z => NN z.2) (fun z hz => nb_X4_add_67 z hz) BIG (0, (up (up (up (up (up s 23 13 ((s 23 13) + 1)) 24 (s 23 13).toNatClampNeg (D_X3_size 38 (up s 23 13 ((s 23 13) + 1)))) 25 (s 23 13).toNatClampNeg a2) 27 (s 23 13).toNatClampNeg (D_X7_imports 38 (up (up (up s 23 13 ((s 23 13) + 1)) 24 (s 23 13).toNatClampNeg (D_X3_size 38 (up s 23 13 ((s 23 13) + 1)))) 25 (s 23 13).toNatClampNeg a2))) 26 (s 23 13).toNatClampNeg 0)) (nn_0 rfl (nn_0 rfl (nn_0 rfl (nn_0 rfl (nn_c (nn_inc (rg_c (hN 23 13 rfl) (nf_X4_isFull c0) (m := 6) (n := 6) rfl).1 (lt_nle (nf_X4_isFull c0)) (by decide)) hN))))))
  · refine rx_ifF rfl (bf c0) rfl ?_
    refine rx_k 1 (8, [(0, .ref (b + 23)), (1, .ref (b + 38)), (2, .int a2)], [.int (-1)]) (fun _ _ => rfl) ?_
    rw [(show (D_X4_add s a2) = ((-1), s) from ((if_neg c0).trans rfl))]
    try dsimp only
    exact rx_ri rfl
theorem rc_X4_add (hP : WOK b w H0) {s : Sg} {a2 : Int32} (hN : NN s) : Rc sc 3 62 [.ref (b + 23), .ref (b + 38), .int a2] (wd b w wl H0 s, kn) (some (.int (D_X4_add s a2).1)) (wd b w wl H0 (D_X4_add s a2).2, kn) := rx_mc (m_X4_add hP hN) rfl rfl (Nat.ble_eq_true_of_le (Nat.le_refl _)) (Nat.ble_eq_true_of_le (Nat.le_refl _))
theorem nn_X4_add {s : Sg} {a2 : Int32} (hN : NN s) : NN (D_X4_add s a2).2 := by
  by_cases c0 : (D_X4_isFull s) = 0
  · rw [show (D_X4_add s a2) = (R_X4_add_136 ((itr (B_X4_add_67 (s 23 13)) BIG (0, (up (up (up (up (up s 23 13 ((s 23 13) + 1)) 24 (s 23 13).toNatClampNeg (D_X3_size 38 (up s 23 13 ((s 23 13) + 1)))) 25 (s 23 13).toNatClampNeg a2) 27 (s 23 13).toNatClampNeg (D_X7_imports 38 (up (up (up s 23 13 ((s 23 13) + 1)) 24 (s 23 13).toNatClampNeg (D_X3_size 38 (up s 23 13 ((s 23 13) + 1)))) 25 (s 23 13).toNatClampNeg a2))) 26 (s 23 13).toNatClampNeg 0))).2) (s 23 13)) from ((if_pos c0).trans rfl)]
    try dsimp only
    exact (nr_X4_add_136 (itr_inv (B := B_X4_add_67 (s 23 13)) (I := fun z => NN z.2) (fun z hz => nb_X4_add_67 z hz) BIG (0, (up (up (up (up (up s 23 13 ((s 23 13) + 1)) 24 (s 23 13).toNatClampNeg (D_X3_size 38 (up s 23 13 ((s 23 13) + 1)))) 25 (s 23 13).toNatClampNeg a2) 27 (s 23 13).toNatClampNeg (D_X7_imports 38 (up (up (up s 23 13 ((s 23 13) + 1)) 24 (s 23 13).toNatClampNeg (D_X3_size 38 (up s 23 13 ((s 23 13) + 1)))) 25 (s 23 13).toNatClampNeg a2))) 26 (s 23 13).toNatClampNeg 0)) (nn_0 rfl (nn_0 rfl (nn_0 rfl (nn_0 rfl (nn_c (nn_inc (rg_c (hN 23 13 rfl) (nf_X4_isFull c0) (m := 6) (n := 6) rfl).1 (lt_nle (nf_X4_isFull c0)) (by decide)) hN)))))))
  · rw [show (D_X4_add s a2) = ((-1), s) from ((if_neg c0).trans rfl)]
    try dsimp only
    exact hN
theorem fwb_X4_add_67 {a3 : Int32} {x : Int32 × Sg} {k j : Nat} (h23f13 : k ≠ 23 ∨ j ≠ 13) (h24 : k ≠ 24) (h25 : k ≠ 25) (h26 : k ≠ 26) (h27 : k ≠ 27) (h28 : k ≠ 28) : (B_X4_add_67 a3 x).2.2 k j = x.2 k j := by
  by_cases c0 : 20 ≤ x.1
  · rw [show (B_X4_add_67 a3 x) = (false, (x.1, x.2)) from ((if_pos c0).trans rfl)]
    first | done | (dsimp only; done) | ((try dsimp only); exact rfl)
  · by_cases c1 : (D_X3_addressOfName 38 x.2 x.1) = (-1)
    · rw [show (B_X4_add_67 a3 x) = (true, ((x.1 + 1), x.2)) from ((if_neg c0).trans ((if_pos c1).trans rfl))]
      first | done | (dsimp only; done) | ((try dsimp only); exact rfl)
    · by_cases c2 : (D_X9_isHidden 38 x.2 x.1) = 0
      · rw [show (B_X4_add_67 a3 x) = (true, ((x.1 + 1), (up (up x.2 26 a3.toNatClampNeg ((x.2 26 a3.toNatClampNeg) ||| (1 <<< (x.1 &&& 31)))) 28 ((a3 * 20) + x.1).toNatClampNeg (D_X3_addressOfName 38 x.2 x.1)))) from ((if_neg c0).trans ((if_neg c1).trans ((if_pos c2).trans rfl)))]
        first | done | (dsimp only; done) | ((try dsimp only); exact ((up_a h28).trans ((up_a h26).trans rfl)))
      · rw [show (B_X4_add_67 a3 x) = (true, ((x.1 + 1), x.2)) from ((if_neg c0).trans ((if_neg c1).trans ((if_neg c2).trans rfl)))]
        first | done | (dsimp only; done) | ((try dsimp only); exact rfl)
theorem fwr_X4_add_136 {s : Sg} {a3 : Int32} {k j : Nat} (h23f13 : k ≠ 23 ∨ j ≠ 13) (h24 : k ≠ 24) (h25 : k ≠ 25) (h26 : k ≠ 26) (h27 : k ≠ 27) (h28 : k ≠ 28) : (R_X4_add_136 s a3).2 k j = s k j := by
  rw [show (R_X4_add_136 s a3) = (a3, s) from rfl]
  first | done | (dsimp only; done) | ((try dsimp only); exact rfl)
theorem fw_X4_add {s : Sg} {a2 : Int32} {k j : Nat} (h23f13 : k ≠ 23 ∨ j ≠ 13) (h24 : k ≠ 24) (h25 : k ≠ 25) (h26 : k ≠ 26) (h27 : k ≠ 27) (h28 : k ≠ 28) : (D_X4_add s a2).2 k j = s k j := by
  by_cases c0 : (D_X4_isFull s) = 0
  · rw [show (D_X4_add s a2) = (R_X4_add_136 ((itr (B_X4_add_67 (s 23 13)) BIG (0, (up (up (up (up (up s 23 13 ((s 23 13) + 1)) 24 (s 23 13).toNatClampNeg (D_X3_size 38 (up s 23 13 ((s 23 13) + 1)))) 25 (s 23 13).toNatClampNeg a2) 27 (s 23 13).toNatClampNeg (D_X7_imports 38 (up (up (up s 23 13 ((s 23 13) + 1)) 24 (s 23 13).toNatClampNeg (D_X3_size 38 (up s 23 13 ((s 23 13) + 1)))) 25 (s 23 13).toNatClampNeg a2))) 26 (s 23 13).toNatClampNeg 0))).2) (s 23 13)) from ((if_pos c0).trans rfl)]
    first | done | (dsimp only; done) | ((try dsimp only); exact ((fwr_X4_add_136 h23f13 h24 h25 h26 h27 h28).trans ((itr_inv (B := B_X4_add_67 (s 23 13)) (I := fun z => z.2 k j = (up (up (up (up (up s 23 13 ((s 23 13) + 1)) 24 (s 23 13).toNatClampNeg (D_X3_size 38 (up s 23 13 ((s 23 13) + 1)))) 25 (s 23 13).toNatClampNeg a2) 27 (s 23 13).toNatClampNeg (D_X7_imports 38 (up (up (up s 23 13 ((s 23 13) + 1)) 24 (s 23 13).toNatClampNeg (D_X3_size 38 (up s 23 13 ((s 23 13) + 1)))) 25 (s 23 13).toNatClampNeg a2))) 26 (s 23 13).toNatClampNeg 0) k j) (fun z hz => (fwb_X4_add_67 h23f13 h24 h25 h26 h27 h28).trans hz) BIG (0, (up (up (up (up (up s 23 13 ((s 23 13) + 1)) 24 (s 23 13).toNatClampNeg (D_X3_size 38 (up s 23 13 ((s 23 13) + 1)))) 25 (s 23 13).toNatClampNeg a2) 27 (s 23 13).toNatClampNeg (D_X7_imports 38 (up (up (up s 23 13 ((s 23 13) + 1)) 24 (s 23 13).toNatClampNeg (D_X3_size 38 (up s 23 13 ((s 23 13) + 1)))) 25 (s 23 13).toNatClampNeg a2))) 26 (s 23 13).toNatClampNeg 0)) rfl).trans ((up_a h26).trans ((up_a h27).trans ((up_a h25).trans ((up_a h24).trans ((up_f h23f13).trans rfl))))))))
  · rw [show (D_X4_add s a2) = ((-1), s) from ((if_neg c0).trans rfl)]
    first | done | (dsimp only; done) | ((try dsimp only); exact rfl)
-- LinkHarbour$LibraryTable.neededNow
noncomputable def D_X4_neededNow (s : Sg) (a1 : Int32) : Int32 := (if (D_X4_has s a1) = 0 then 0 else ((s 25 a1.toNatClampNeg) &&& ((1 <<< ((s 23 13) &&& 31)) - 1)))
theorem m_X4_neededNow (hP : WOK b w H0) {s : Sg} {a1 : Int32} : Rx sc g_X4_neededNow 1 ((0, [(0, .ref (b + 23)), (1, .int a1)], [])) (wd b w wl H0 s, kn) (some (.int (D_X4_neededNow s a1))) (wd b w wl H0 s, kn) := by
  show Rx sc g_X4_neededNow 1 (0, [(0, .ref (b + 23)), (1, .int a1)], []) (wd b w wl H0 s, kn) (some (.int (D_X4_neededNow s a1))) (wd b w wl H0 s, kn)
  refine rx_k 2 (2, [(0, .ref (b + 23)), (1, .int a1)], [.int a1, .ref (b + 23)]) (fun _ _ => rfl) ?_
  refine rx_inv rfl rfl (rc_X4_has hP) rfl rfl rfl (q_recv (wg_23 hP)) rfl rfl ?_
  by_cases c0 : (D_X4_has s a1) = 0
  · refine rx_ifT rfl (bt c0) ?_
    refine rx_k 1 (27, [(0, .ref (b + 23)), (1, .int a1)], [.int 0]) (fun _ _ => rfl) ?_
    rw [(show (D_X4_neededNow s a1) = 0 from ((if_pos c0).trans rfl))]
    try dsimp only
    exact rx_ri rfl
  · refine rx_ifF rfl (bf c0) rfl ?_
    refine rx_k 1 (9, [(0, .ref (b + 23)), (1, .int a1)], [.ref (b + 23)]) (fun _ _ => rfl) ?_
    refine rx_getf rfl rfl (wg_23 hP) rfl ?_
    refine rx_k 1 (13, [(0, .ref (b + 23)), (1, .int a1)], [.int a1, .ref (b + 25)]) (fun _ _ => rfl) ?_
    refine rx_ild rfl rfl (wg_25 hP) (ar_at (rg_X4_has c0)) ?_
    refine rx_k 2 (16, [(0, .ref (b + 23)), (1, .int a1)], [.ref (b + 23), .int 1, .int (s 25 a1.toNatClampNeg)]) (fun _ _ => rfl) ?_
    refine rx_getf rfl rfl (wg_23 hP) rfl ?_
    refine rx_k 5 (27, [(0, .ref (b + 23)), (1, .int a1)], [.int ((s 25 a1.toNatClampNeg) &&& ((1 <<< ((s 23 13) &&& 31)) - 1))]) (fun _ _ => rfl) ?_
    rw [(show (D_X4_neededNow s a1) = ((s 25 a1.toNatClampNeg) &&& ((1 <<< ((s 23 13) &&& 31)) - 1)) from ((if_neg c0).trans rfl))]
    try dsimp only
    exact rx_ri rfl
theorem rc_X4_neededNow (hP : WOK b w H0) {s : Sg} {a1 : Int32} : Rc sc 2 63 [.ref (b + 23), .int a1] (wd b w wl H0 s, kn) (some (.int (D_X4_neededNow s a1))) (wd b w wl H0 s, kn) := rx_mc (m_X4_neededNow hP) rfl rfl (Nat.ble_eq_true_of_le (Nat.le_refl _)) (Nat.ble_eq_true_of_le (Nat.le_refl _))
-- LinkHarbour$LibraryTable.fillRow
def fr_X4_fillRow_18 (b w : Nat) (x : Int32 × Int32 × Sg) : EF := (18, [(0, .ref (b + 23)), (2, .int x.2.1), (3, .int x.1)], [])
def fe_X4_fillRow_18 (b w : Nat) (x : Int32 × Int32 × Sg) : EF := (110, [(2, .int x.2.1)], [])
def fr_X4_fillRow_44 (b w : Nat) (a3 : Int32) (a4 : Int32) (x : Int32 × Int32 × Sg) : EF := (44, [(0, .ref (b + 23)), (2, .int x.2.1), (3, .int a3), (4, .int a4), (5, .int x.1)], [])
def fe_X4_fillRow_44 (b w : Nat) (a3 : Int32) (a4 : Int32) (x : Int32 × Int32 × Sg) : EF := (104, [(0, .ref (b + 23)), (2, .int x.2.1), (3, .int a3)], [])
noncomputable def B_X4_fillRow_44 (a3 : Int32) (a4 : Int32) (x : Int32 × Int32 × Sg) : Bool × (Int32 × Int32 × Sg) := (if 6 ≤ x.1 then (false, (x.1, x.2.1, x.2.2)) else (if (D_X11_hasBit (a4 &&& ((x.2.2 23 12) ^^^ (-1))) x.1) = 0 then (true, ((x.1 + 1), x.2.1, x.2.2)) else (if 6 ≤ x.2.1 then (true, ((x.1 + 1), x.2.1, x.2.2)) else (true, ((x.1 + 1), (x.2.1 + 1), (up (up x.2.2 34 x.2.1.toNatClampNeg x.1) 23 12 ((x.2.2 23 12) ||| (1 <<< (x.1 &&& 31)))))))))
theorem b_X4_fillRow_44 (hP : WOK b w H0) {a3 : Int32} {a4 : Int32} (h3 : rg a3 6) (x : Int32 × Int32 × Sg) (o : Option Value) (h' : EH) (hN : NN x.2.2) (hv : 0 ≤ (x.1).toInt) (hp : 0 ≤ (x.2.1).toInt) (hc : (B_X4_fillRow_44 a3 a4 x).1 = true → (x.1).toInt < 2147483647 → (B_X4_fillRow_44 a3 a4 x).2.1 = x.1 + 1 → Rx sc g_X4_fillRow 2 (fr_X4_fillRow_44 b w a3 a4 (B_X4_fillRow_44 a3 a4 x).2) (wd b w wl H0 (B_X4_fillRow_44 a3 a4 x).2.2.2, kn) o h') (he : (B_X4_fillRow_44 a3 a4 x).1 = false → Rx sc g_X4_fillRow 2 (fe_X4_fillRow_44 b w a3 a4 (B_X4_fillRow_44 a3 a4 x).2) (wd b w wl H0 (B_X4_fillRow_44 a3 a4 x).2.2.2, kn) o h') : Rx sc g_X4_fillRow 2 (fr_X4_fillRow_44 b w a3 a4 x) (wd b w wl H0 x.2.2, kn) o h' := by
  show Rx sc g_X4_fillRow 2 (44, [(0, .ref (b + 23)), (2, .int x.2.1), (3, .int a3), (4, .int a4), (5, .int x.1)], []) (wd b w wl H0 x.2.2, kn) o h'
  refine rx_k 2 (48, [(0, .ref (b + 23)), (2, .int x.2.1), (3, .int a3), (4, .int a4), (5, .int x.1)], [.int 6, .int x.1]) (fun _ _ => rfl) ?_
  by_cases c0 : 6 ≤ x.1
  · refine rx_icT rfl (bt c0) ?_
    rw [(show (B_X4_fillRow_44 a3 a4 x) = (false, (x.1, x.2.1, x.2.2)) from ((if_pos c0).trans rfl))] at he
    dsimp only at he
    exact rx_lo am_X4_fillRow (lo := [(0, .ref (b + 23)), (2, .int x.2.1), (3, .int a3)]) (List.forall_mem_cons.mpr ⟨List.mem_of_getElem? (i := 0) rfl, (List.forall_mem_cons.mpr ⟨List.mem_of_getElem? (i := 1) rfl, (List.forall_mem_cons.mpr ⟨List.mem_of_getElem? (i := 2) rfl, (fun _ h => absurd h List.not_mem_nil)⟩)⟩)⟩) rfl (he rfl)
  · refine rx_icF rfl (bf c0) rfl ?_
    refine rx_k 2 (54, [(0, .ref (b + 23)), (2, .int x.2.1), (3, .int a3), (4, .int a4), (5, .int x.1)], [.ref (b + 23), .int a4]) (fun _ _ => rfl) ?_
    refine rx_getf rfl rfl (wg_23 hP) rfl ?_
    refine rx_k 4 (62, [(0, .ref (b + 23)), (2, .int x.2.1), (3, .int a3), (4, .int a4), (5, .int x.1)], [.int x.1, .int (a4 &&& ((x.2.2 23 12) ^^^ (-1)))]) (fun _ _ => rfl) ?_
    refine rx_inv rfl rfl (rc_X11_hasBit) rfl rfl rfl rfl rfl rfl ?_
    by_cases c1 : (D_X11_hasBit (a4 &&& ((x.2.2 23 12) ^^^ (-1))) x.1) = 0
    · refine rx_ifT rfl (bt c1) ?_
      refine rx_k 2 (44, [(5, .int (x.1 + 1)), (0, .ref (b + 23)), (2, .int x.2.1), (3, .int a3), (4, .int a4)], []) (fun _ _ => rfl) ?_
      rw [(show (B_X4_fillRow_44 a3 a4 x) = (true, ((x.1 + 1), x.2.1, x.2.2)) from ((if_neg c0).trans ((if_pos c1).trans rfl)))] at hc
      dsimp only at hc
      refine rx_lo am_X4_fillRow (lo := [(0, .ref (b + 23)), (2, .int x.2.1), (3, .int a3), (4, .int a4), (5, .int (x.1 + 1))]) (List.forall_mem_cons.mpr ⟨List.mem_of_getElem? (i := 1) rfl, (List.forall_mem_cons.mpr ⟨List.mem_of_getElem? (i := 2) rfl, (List.forall_mem_cons.mpr ⟨List.mem_of_getElem? (i := 3) rfl, (List.forall_mem_cons.mpr ⟨List.mem_of_getElem? (i := 4) rfl, (List.forall_mem_cons.mpr ⟨List.mem_of_getElem? (i := 0) rfl, (fun _ h => absurd h List.not_mem_nil)⟩)⟩)⟩)⟩)⟩) rfl (hc rfl (lt_nle c0) rfl)
    · refine rx_ifF rfl (bf c1) rfl ?_
      refine rx_k 2 (71, [(0, .ref (b + 23)), (2, .int x.2.1), (3, .int a3), (4, .int a4), (5, .int x.1)], [.int 6, .int x.2.1]) (fun _ _ => rfl) ?_
      by_cases c2 : 6 ≤ x.2.1
      · refine rx_icT rfl (bt c2) ?_
        refine rx_k 2 (44, [(5, .int (x.1 + 1)), (0, .ref (b + 23)), (2, .int x.2.1), (3, .int a3), (4, .int a4)], []) (fun _ _ => rfl) ?_
        rw [(show (B_X4_fillRow_44 a3 a4 x) = (true, ((x.1 + 1), x.2.1, x.2.2)) from ((if_neg c0).trans ((if_neg c1).trans ((if_pos c2).trans rfl))))] at hc
        dsimp only at hc
        refine rx_lo am_X4_fillRow (lo := [(0, .ref (b + 23)), (2, .int x.2.1), (3, .int a3), (4, .int a4), (5, .int (x.1 + 1))]) (List.forall_mem_cons.mpr ⟨List.mem_of_getElem? (i := 1) rfl, (List.forall_mem_cons.mpr ⟨List.mem_of_getElem? (i := 2) rfl, (List.forall_mem_cons.mpr ⟨List.mem_of_getElem? (i := 3) rfl, (List.forall_mem_cons.mpr ⟨List.mem_of_getElem? (i := 4) rfl, (List.forall_mem_cons.mpr ⟨List.mem_of_getElem? (i := 0) rfl, (fun _ h => absurd h List.not_mem_nil)⟩)⟩)⟩)⟩)⟩) rfl (hc rfl (lt_nle c0) rfl)
      · refine rx_icF rfl (bf c2) rfl ?_
        refine rx_k 1 (75, [(0, .ref (b + 23)), (2, .int x.2.1), (3, .int a3), (4, .int a4), (5, .int x.1)], [.ref (b + 23)]) (fun _ _ => rfl) ?_
        refine rx_getf rfl rfl (wg_23 hP) rfl ?_
        refine rx_k 2 (81, [(0, .ref (b + 23)), (2, .int x.2.1), (3, .int a3), (4, .int a4), (5, .int x.1)], [.int x.1, .int x.2.1, .ref (b + 34)]) (fun _ _ => rfl) ?_
        refine rx_ist rfl rfl (wg_34 hP) rfl (ar_at (rg_c hp c2 (m := 6) (n := 6) rfl)) (ws_34 hP (rg_c hp c2 (m := 6) (n := 6) rfl)) ?_
        refine rx_k 3 (87, [(2, .int (x.2.1 + 1)), (0, .ref (b + 23)), (3, .int a3), (4, .int a4), (5, .int x.1)], [.ref (b + 23), .ref (b + 23)]) (fun _ _ => rfl) ?_
        refine rx_getf (v := .int (x.2.2 23 12)) rfl rfl (wg_23 hP) (congrArg (fun z => some (Value.int z)) (rd_nk (by decide))) ?_
        refine rx_k 4 (95, [(2, .int (x.2.1 + 1)), (0, .ref (b + 23)), (3, .int a3), (4, .int a4), (5, .int x.1)], [.int ((x.2.2 23 12) ||| (1 <<< (x.1 &&& 31))), .ref (b + 23)]) (fun _ _ => rfl) ?_
        refine rx_putf rfl rfl (wg_23 hP) rfl (ws_23_12 hP) ?_
        refine rx_k 2 (44, [(5, .int (x.1 + 1)), (2, .int (x.2.1 + 1)), (0, .ref (b + 23)), (3, .int a3), (4, .int a4)], []) (fun _ _ => rfl) ?_
        rw [(show (B_X4_fillRow_44 a3 a4 x) = (true, ((x.1 + 1), (x.2.1 + 1), (up (up x.2.2 34 x.2.1.toNatClampNeg x.1) 23 12 ((x.2.2 23 12) ||| (1 <<< (x.1 &&& 31)))))) from ((if_neg c0).trans ((if_neg c1).trans ((if_neg c2).trans rfl))))] at hc
        dsimp only at hc
        refine rx_lo am_X4_fillRow (lo := [(0, .ref (b + 23)), (2, .int (x.2.1 + 1)), (3, .int a3), (4, .int a4), (5, .int (x.1 + 1))]) (List.forall_mem_cons.mpr ⟨List.mem_of_getElem? (i := 2) rfl, (List.forall_mem_cons.mpr ⟨List.mem_of_getElem? (i := 1) rfl, (List.forall_mem_cons.mpr ⟨List.mem_of_getElem? (i := 3) rfl, (List.forall_mem_cons.mpr ⟨List.mem_of_getElem? (i := 4) rfl, (List.forall_mem_cons.mpr ⟨List.mem_of_getElem? (i := 0) rfl, (fun _ h => absurd h List.not_mem_nil)⟩)⟩)⟩)⟩)⟩) rfl (hc rfl (lt_nle c0) rfl)
theorem nb_X4_fillRow_44 {a3 : Int32} {a4 : Int32} (x : Int32 × Int32 × Sg) (hN : NN x.2.2) (hp : 0 ≤ (x.2.1).toInt) : NN ((B_X4_fillRow_44 a3 a4 x).2.2.2) ∧ 0 ≤ ((B_X4_fillRow_44 a3 a4 x).2.2.1).toInt := by
  by_cases c0 : 6 ≤ x.1
  · rw [show (B_X4_fillRow_44 a3 a4 x) = (false, (x.1, x.2.1, x.2.2)) from ((if_pos c0).trans rfl)]
    try dsimp only
    exact ⟨hN, hp⟩
  · by_cases c1 : (D_X11_hasBit (a4 &&& ((x.2.2 23 12) ^^^ (-1))) x.1) = 0
    · rw [show (B_X4_fillRow_44 a3 a4 x) = (true, ((x.1 + 1), x.2.1, x.2.2)) from ((if_neg c0).trans ((if_pos c1).trans rfl))]
      try dsimp only
      exact ⟨hN, hp⟩
    · by_cases c2 : 6 ≤ x.2.1
      · rw [show (B_X4_fillRow_44 a3 a4 x) = (true, ((x.1 + 1), x.2.1, x.2.2)) from ((if_neg c0).trans ((if_neg c1).trans ((if_pos c2).trans rfl)))]
        try dsimp only
        exact ⟨hN, (i_ge0 (Int32.not_lt.mpr c2) (m := 6) (n := 6) rfl (by decide))⟩
      · rw [show (B_X4_fillRow_44 a3 a4 x) = (true, ((x.1 + 1), (x.2.1 + 1), (up (up x.2.2 34 x.2.1.toNatClampNeg x.1) 23 12 ((x.2.2 23 12) ||| (1 <<< (x.1 &&& 31)))))) from ((if_neg c0).trans ((if_neg c1).trans ((if_neg c2).trans rfl)))]
        try dsimp only
        exact ⟨(nn_f rfl (nn_0 rfl hN)), (nn_inc (rg_c hp c2 (m := 6) (n := 6) rfl).1 (lt_nle c2) (by decide))⟩
noncomputable def R_X4_fillRow_104 (s : Sg) (a2 : Int32) (a3 : Int32) : Bool × (Int32 × Int32 × Sg) := (true, ((a3 + 1), a2, s))
theorem r_X4_fillRow_104 (hP : WOK b w H0) {s : Sg} {a2 : Int32} {a3 : Int32} (h3 : rg a3 6) (o : Option Value) (h' : EH) (hN : NN s) (hp : 0 ≤ a2.toInt) (hv : 0 ≤ (a3).toInt) (hlt : (a3).toInt < 2147483647) (hc : (R_X4_fillRow_104 s a2 a3).1 = true → (a3).toInt < 2147483647 → (R_X4_fillRow_104 s a2 a3).2.1 = a3 + 1 → Rx sc g_X4_fillRow 2 (fr_X4_fillRow_18 b w (R_X4_fillRow_104 s a2 a3).2) (wd b w wl H0 (R_X4_fillRow_104 s a2 a3).2.2.2, kn) o h') (he : (R_X4_fillRow_104 s a2 a3).1 = false → Rx sc g_X4_fillRow 2 (fe_X4_fillRow_18 b w (R_X4_fillRow_104 s a2 a3).2) (wd b w wl H0 (R_X4_fillRow_104 s a2 a3).2.2.2, kn) o h') : Rx sc g_X4_fillRow 2 ((104, [(0, .ref (b + 23)), (2, .int a2), (3, .int a3)], [])) (wd b w wl H0 s, kn) o h' := by
  show Rx sc g_X4_fillRow 2 (104, [(0, .ref (b + 23)), (2, .int a2), (3, .int a3)], []) (wd b w wl H0 s, kn) o h'
  refine rx_k 2 (18, [(3, .int (a3 + 1)), (0, .ref (b + 23)), (2, .int a2)], []) (fun _ _ => rfl) ?_
  rw [(show (R_X4_fillRow_104 s a2 a3) = (true, ((a3 + 1), a2, s)) from rfl)] at hc
  dsimp only at hc
  refine rx_lo am_X4_fillRow (lo := [(0, .ref (b + 23)), (2, .int a2), (3, .int (a3 + 1))]) (List.forall_mem_cons.mpr ⟨List.mem_of_getElem? (i := 1) rfl, (List.forall_mem_cons.mpr ⟨List.mem_of_getElem? (i := 2) rfl, (List.forall_mem_cons.mpr ⟨List.mem_of_getElem? (i := 0) rfl, (fun _ h => absurd h List.not_mem_nil)⟩)⟩)⟩) rfl (hc rfl hlt rfl)
theorem nr_X4_fillRow_104 {s : Sg} {a2 : Int32} {a3 : Int32} (hN : NN s) (hp : 0 ≤ a2.toInt) : NN ((R_X4_fillRow_104 s a2 a3).2.2.2) ∧ 0 ≤ ((R_X4_fillRow_104 s a2 a3).2.2.1).toInt := by
  rw [show (R_X4_fillRow_104 s a2 a3) = (true, ((a3 + 1), a2, s)) from rfl]
  try dsimp only
  exact ⟨hN, hp⟩
noncomputable def B_X4_fillRow_18 (x : Int32 × Int32 × Sg) : Bool × (Int32 × Int32 × Sg) := (if x.2.1 ≤ x.1 then (false, (x.1, x.2.1, x.2.2)) else (if 6 ≤ x.1 then (false, (x.1, x.2.1, x.2.2)) else (R_X4_fillRow_104 ((itr (B_X4_fillRow_44 x.1 (D_X4_neededNow x.2.2 (x.2.2 34 x.1.toNatClampNeg))) BIG (0, x.2.1, x.2.2)).2.2) ((itr (B_X4_fillRow_44 x.1 (D_X4_neededNow x.2.2 (x.2.2 34 x.1.toNatClampNeg))) BIG (0, x.2.1, x.2.2)).2.1) x.1)))
theorem b_X4_fillRow_18 (hP : WOK b w H0) (x : Int32 × Int32 × Sg) (o : Option Value) (h' : EH) (hN : NN x.2.2) (hv : 0 ≤ (x.1).toInt) (hp : 0 ≤ (x.2.1).toInt) (hc : (B_X4_fillRow_18 x).1 = true → (x.1).toInt < 2147483647 → (B_X4_fillRow_18 x).2.1 = x.1 + 1 → Rx sc g_X4_fillRow 2 (fr_X4_fillRow_18 b w (B_X4_fillRow_18 x).2) (wd b w wl H0 (B_X4_fillRow_18 x).2.2.2, kn) o h') (he : (B_X4_fillRow_18 x).1 = false → Rx sc g_X4_fillRow 2 (fe_X4_fillRow_18 b w (B_X4_fillRow_18 x).2) (wd b w wl H0 (B_X4_fillRow_18 x).2.2.2, kn) o h') : Rx sc g_X4_fillRow 2 (fr_X4_fillRow_18 b w x) (wd b w wl H0 x.2.2, kn) o h' := by
  show Rx sc g_X4_fillRow 2 (18, [(0, .ref (b + 23)), (2, .int x.2.1), (3, .int x.1)], []) (wd b w wl H0 x.2.2, kn) o h'
  refine rx_k 2 (20, [(0, .ref (b + 23)), (2, .int x.2.1), (3, .int x.1)], [.int x.2.1, .int x.1]) (fun _ _ => rfl) ?_
  by_cases c0 : x.2.1 ≤ x.1
  · refine rx_icT rfl (bt c0) ?_
    rw [(show (B_X4_fillRow_18 x) = (false, (x.1, x.2.1, x.2.2)) from ((if_pos c0).trans rfl))] at he
    dsimp only at he
    exact rx_lo am_X4_fillRow (lo := [(2, .int x.2.1)]) (List.forall_mem_cons.mpr ⟨List.mem_of_getElem? (i := 1) rfl, (fun _ h => absurd h List.not_mem_nil)⟩) rfl (he rfl)
  · refine rx_icF rfl (bf c0) rfl ?_
    refine rx_k 2 (26, [(0, .ref (b + 23)), (2, .int x.2.1), (3, .int x.1)], [.int 6, .int x.1]) (fun _ _ => rfl) ?_
    by_cases c1 : 6 ≤ x.1
    · refine rx_icT rfl (bt c1) ?_
      rw [(show (B_X4_fillRow_18 x) = (false, (x.1, x.2.1, x.2.2)) from ((if_neg c0).trans ((if_pos c1).trans rfl)))] at he
      dsimp only at he
      exact rx_lo am_X4_fillRow (lo := [(2, .int x.2.1)]) (List.forall_mem_cons.mpr ⟨List.mem_of_getElem? (i := 1) rfl, (fun _ h => absurd h List.not_mem_nil)⟩) rfl (he rfl)
    · refine rx_icF rfl (bf c1) rfl ?_
      refine rx_k 2 (31, [(0, .ref (b + 23)), (2, .int x.2.1), (3, .int x.1)], [.ref (b + 23), .ref (b + 23)]) (fun _ _ => rfl) ?_
      refine rx_getf rfl rfl (wg_23 hP) rfl ?_
      refine rx_k 1 (35, [(0, .ref (b + 23)), (2, .int x.2.1), (3, .int x.1)], [.int x.1, .ref (b + 34), .ref (b + 23)]) (fun _ _ => rfl) ?_
      refine rx_ild rfl rfl (wg_34 hP) (ar_at (rg_c hv c1 (m := 6) (n := 6) rfl)) ?_
      refine rx_inv rfl rfl (rc_X4_neededNow hP) rfl rfl rfl (q_recv (wg_23 hP)) rfl rfl ?_
      refine rx_k 3 (44, [(5, .int 0), (4, .int (D_X4_neededNow x.2.2 (x.2.2 34 x.1.toNatClampNeg))), (0, .ref (b + 23)), (2, .int x.2.1), (3, .int x.1)], []) (fun _ _ => rfl) ?_
      refine rx_lo am_X4_fillRow (lo := [(0, .ref (b + 23)), (2, .int x.2.1), (3, .int x.1), (4, .int (D_X4_neededNow x.2.2 (x.2.2 34 x.1.toNatClampNeg))), (5, .int 0)]) (List.forall_mem_cons.mpr ⟨List.mem_of_getElem? (i := 2) rfl, (List.forall_mem_cons.mpr ⟨List.mem_of_getElem? (i := 3) rfl, (List.forall_mem_cons.mpr ⟨List.mem_of_getElem? (i := 4) rfl, (List.forall_mem_cons.mpr ⟨List.mem_of_getElem? (i := 1) rfl, (List.forall_mem_cons.mpr ⟨List.mem_of_getElem? (i := 0) rfl, (fun _ h => absurd h List.not_mem_nil)⟩)⟩)⟩)⟩)⟩) rfl ?_
      refine rx_loop (B := B_X4_fillRow_44 x.1 (D_X4_neededNow x.2.2 (x.2.2 34 x.1.toNatClampNeg))) (fr := (fr_X4_fillRow_44 b w x.1 (D_X4_neededNow x.2.2 (x.2.2 34 x.1.toNatClampNeg)))) (E := (fe_X4_fillRow_44 b w x.1 (D_X4_neededNow x.2.2 (x.2.2 34 x.1.toNatClampNeg)))) (hp := (fun z => (wd b w wl H0 z.2.2, kn))) (vr := fun z => z.1) (I := (fun z => NN z.2.2 ∧ 0 ≤ (z.2.1).toInt)) (fun z o1 h1 hI1 hv1 hc1 he1 => b_X4_fillRow_44 hP (rg_c hv c1 (m := 6) (n := 6) rfl) z o1 h1 hI1.1 hv1 hI1.2 hc1 he1) (fun z hz => nb_X4_fillRow_44 z hz.1 hz.2) BIG (0, x.2.1, x.2.2) _ _ ⟨hN, hp⟩ (by decide : (0 : Int) ≤ (0 : Int32).toInt) (le_enough (by decide : (0 : Int) ≤ (0 : Int32).toInt)) ?_
      rw [(show (B_X4_fillRow_18 x) = (R_X4_fillRow_104 ((itr (B_X4_fillRow_44 x.1 (D_X4_neededNow x.2.2 (x.2.2 34 x.1.toNatClampNeg))) BIG (0, x.2.1, x.2.2)).2.2) ((itr (B_X4_fillRow_44 x.1 (D_X4_neededNow x.2.2 (x.2.2 34 x.1.toNatClampNeg))) BIG (0, x.2.1, x.2.2)).2.1) x.1) from ((if_neg c0).trans ((if_neg c1).trans rfl)))] at hc he
      exact r_X4_fillRow_104 hP (rg_c hv c1 (m := 6) (n := 6) rfl) o h' (itr_inv (B := B_X4_fillRow_44 x.1 (D_X4_neededNow x.2.2 (x.2.2 34 x.1.toNatClampNeg))) (I := fun z => NN z.2.2 ∧ 0 ≤ (z.2.1).toInt) (fun z hz => nb_X4_fillRow_44 z hz.1 hz.2) BIG (0, x.2.1, x.2.2) ⟨hN, hp⟩).1 (itr_inv (B := B_X4_fillRow_44 x.1 (D_X4_neededNow x.2.2 (x.2.2 34 x.1.toNatClampNeg))) (I := fun z => NN z.2.2 ∧ 0 ≤ (z.2.1).toInt) (fun z hz => nb_X4_fillRow_44 z hz.1 hz.2) BIG (0, x.2.1, x.2.2) ⟨hN, hp⟩).2 (rg_c hv c1 (m := 6) (n := 6) rfl).1 (lt_nle c0) hc he
theorem nb_X4_fillRow_18 (x : Int32 × Int32 × Sg) (hN : NN x.2.2) (hp : 0 ≤ (x.2.1).toInt) : NN ((B_X4_fillRow_18 x).2.2.2) ∧ 0 ≤ ((B_X4_fillRow_18 x).2.2.1).toInt := by
  by_cases c0 : x.2.1 ≤ x.1
  · rw [show (B_X4_fillRow_18 x) = (false, (x.1, x.2.1, x.2.2)) from ((if_pos c0).trans rfl)]
    try dsimp only
    exact ⟨hN, hp⟩
  · by_cases c1 : 6 ≤ x.1
    · rw [show (B_X4_fillRow_18 x) = (false, (x.1, x.2.1, x.2.2)) from ((if_neg c0).trans ((if_pos c1).trans rfl))]
      try dsimp only
      exact ⟨hN, hp⟩
    · rw [show (B_X4_fillRow_18 x) = (R_X4_fillRow_104 ((itr (B_X4_fillRow_44 x.1 (D_X4_neededNow x.2.2 (x.2.2 34 x.1.toNatClampNeg))) BIG (0, x.2.1, x.2.2)).2.2) ((itr (B_X4_fillRow_44 x.1 (D_X4_neededNow x.2.2 (x.2.2 34 x.1.toNatClampNeg))) BIG (0, x.2.1, x.2.2)).2.1) x.1) from ((if_neg c0).trans ((if_neg c1).trans rfl))]
      try dsimp only
      exact (nr_X4_fillRow_104 (itr_inv (B := B_X4_fillRow_44 x.1 (D_X4_neededNow x.2.2 (x.2.2 34 x.1.toNatClampNeg))) (I := fun z => NN z.2.2 ∧ 0 ≤ (z.2.1).toInt) (fun z hz => nb_X4_fillRow_44 z hz.1 hz.2) BIG (0, x.2.1, x.2.2) ⟨hN, hp⟩).1 (itr_inv (B := B_X4_fillRow_44 x.1 (D_X4_neededNow x.2.2 (x.2.2 34 x.1.toNatClampNeg))) (I := fun z => NN z.2.2 ∧ 0 ≤ (z.2.1).toInt) (fun z hz => nb_X4_fillRow_44 z hz.1 hz.2) BIG (0, x.2.1, x.2.2) ⟨hN, hp⟩).2)
noncomputable def R_X4_fillRow_110 (s : Sg) (a2 : Int32) : Int32 × Sg := (a2, s)
theorem r_X4_fillRow_110 (hP : WOK b w H0) {s : Sg} {a2 : Int32} (hN : NN s) (hp : 0 ≤ a2.toInt) : Rx sc g_X4_fillRow 2 ((110, [(2, .int a2)], [])) (wd b w wl H0 s, kn) (some (.int (R_X4_fillRow_110 s a2).1)) (wd b w wl H0 (R_X4_fillRow_110 s a2).2, kn) := by
  show Rx sc g_X4_fillRow 2 (110, [(2, .int a2)], []) (wd b w wl H0 s, kn) (some (.int (R_X4_fillRow_110 s a2).1)) (wd b w wl H0 (R_X4_fillRow_110 s a2).2, kn)
  refine rx_k 1 (111, [(2, .int a2)], [.int a2]) (fun _ _ => rfl) ?_
  rw [(show (R_X4_fillRow_110 s a2) = (a2, s) from rfl)]
  try dsimp only
  exact rx_ri rfl
theorem nr_X4_fillRow_110 {s : Sg} {a2 : Int32} (hN : NN s) (hp : 0 ≤ a2.toInt) : NN ((R_X4_fillRow_110 s a2).2) := by
  rw [show (R_X4_fillRow_110 s a2) = (a2, s) from rfl]
  try dsimp only
  exact hN
noncomputable def D_X4_fillRow (s : Sg) (a1 : Int32) : Int32 × Sg := (R_X4_fillRow_110 ((itr (B_X4_fillRow_18) BIG (0, 1, (up (up s 34 0 a1) 23 12 (1 <<< (a1 &&& 31))))).2.2) ((itr (B_X4_fillRow_18) BIG (0, 1, (up (up s 34 0 a1) 23 12 (1 <<< (a1 &&& 31))))).2.1))
theorem m_X4_fillRow (hP : WOK b w H0) {s : Sg} {a1 : Int32} (hN : NN s) : Rx sc g_X4_fillRow 2 ((0, [(0, .ref (b + 23)), (1, .int a1)], [])) (wd b w wl H0 s, kn) (some (.int (D_X4_fillRow s a1).1)) (wd b w wl H0 (D_X4_fillRow s a1).2, kn) := by
  show Rx sc g_X4_fillRow 2 (0, [(0, .ref (b + 23)), (1, .int a1)], []) (wd b w wl H0 s, kn) (some (.int (D_X4_fillRow s a1).1)) (wd b w wl H0 (D_X4_fillRow s a1).2, kn)
  refine rx_k 1 (1, [(0, .ref (b + 23)), (1, .int a1)], [.ref (b + 23)]) (fun _ _ => rfl) ?_
  refine rx_getf rfl rfl (wg_23 hP) rfl ?_
  refine rx_k 2 (6, [(0, .ref (b + 23)), (1, .int a1)], [.int a1, .int 0, .ref (b + 34)]) (fun _ _ => rfl) ?_
  refine rx_ist rfl rfl (wg_34 hP) rfl (ar_at ⟨by decide, by decide⟩) (ws_34 hP ⟨by decide, by decide⟩) ?_
  refine rx_k 4 (11, [(0, .ref (b + 23)), (1, .int a1)], [.int (1 <<< (a1 &&& 31)), .ref (b + 23)]) (fun _ _ => rfl) ?_
  refine rx_putf rfl rfl (wg_23 hP) rfl (ws_23_12 hP) ?_
  refine rx_k 4 (18, [(3, .int 0), (2, .int 1), (0, .ref (b + 23)), (1, .int a1)], []) (fun _ _ => rfl) ?_
  refine rx_lo am_X4_fillRow (lo := [(0, .ref (b + 23)), (2, .int 1), (3, .int 0)]) (List.forall_mem_cons.mpr ⟨List.mem_of_getElem? (i := 2) rfl, (List.forall_mem_cons.mpr ⟨List.mem_of_getElem? (i := 1) rfl, (List.forall_mem_cons.mpr ⟨List.mem_of_getElem? (i := 0) rfl, (fun _ h => absurd h List.not_mem_nil)⟩)⟩)⟩) rfl ?_
  refine rx_loop (B := B_X4_fillRow_18) (fr := (fr_X4_fillRow_18 b w)) (E := (fe_X4_fillRow_18 b w)) (hp := (fun z => (wd b w wl H0 z.2.2, kn))) (vr := fun z => z.1) (I := (fun z => NN z.2.2 ∧ 0 ≤ (z.2.1).toInt)) (fun z o1 h1 hI1 hv1 hc1 he1 => b_X4_fillRow_18 hP z o1 h1 hI1.1 hv1 hI1.2 hc1 he1) (fun z hz => nb_X4_fillRow_18 z hz.1 hz.2) BIG (0, 1, (up (up s 34 0 a1) 23 12 (1 <<< (a1 &&& 31)))) _ _ ⟨(nn_f rfl (nn_0 rfl hN)), (by decide : (0 : Int) ≤ (1 : Int32).toInt)⟩ (by decide : (0 : Int) ≤ (0 : Int32).toInt) (le_enough (by decide : (0 : Int) ≤ (0 : Int32).toInt)) ?_
  rw [(show (D_X4_fillRow s a1) = (R_X4_fillRow_110 ((itr (B_X4_fillRow_18) BIG (0, 1, (up (up s 34 0 a1) 23 12 (1 <<< (a1 &&& 31))))).2.2) ((itr (B_X4_fillRow_18) BIG (0, 1, (up (up s 34 0 a1) 23 12 (1 <<< (a1 &&& 31))))).2.1)) from rfl)]
  exact r_X4_fillRow_110 hP (itr_inv (B := B_X4_fillRow_18) (I := fun z => NN z.2.2 ∧ 0 ≤ (z.2.1).toInt) (fun z hz => nb_X4_fillRow_18 z hz.1 hz.2) BIG (0, 1, (up (up s 34 0 a1) 23 12 (1 <<< (a1 &&& 31)))) ⟨(nn_f rfl (nn_0 rfl hN)), (by decide : (0 : Int) ≤ (1 : Int32).toInt)⟩).1 (itr_inv (B := B_X4_fillRow_18) (I := fun z => NN z.2.2 ∧ 0 ≤ (z.2.1).toInt) (fun z hz => nb_X4_fillRow_18 z hz.1 hz.2) BIG (0, 1, (up (up s 34 0 a1) 23 12 (1 <<< (a1 &&& 31)))) ⟨(nn_f rfl (nn_0 rfl hN)), (by decide : (0 : Int) ≤ (1 : Int32).toInt)⟩).2
theorem rc_X4_fillRow (hP : WOK b w H0) {s : Sg} {a1 : Int32} (hN : NN s) : Rc sc 3 65 [.ref (b + 23), .int a1] (wd b w wl H0 s, kn) (some (.int (D_X4_fillRow s a1).1)) (wd b w wl H0 (D_X4_fillRow s a1).2, kn) := rx_mc (m_X4_fillRow hP hN) rfl rfl (Nat.ble_eq_true_of_le (Nat.le_refl _)) (Nat.ble_eq_true_of_le (Nat.le_refl _))
theorem nn_X4_fillRow {s : Sg} {a1 : Int32} (hN : NN s) : NN (D_X4_fillRow s a1).2 := by
  rw [show (D_X4_fillRow s a1) = (R_X4_fillRow_110 ((itr (B_X4_fillRow_18) BIG (0, 1, (up (up s 34 0 a1) 23 12 (1 <<< (a1 &&& 31))))).2.2) ((itr (B_X4_fillRow_18) BIG (0, 1, (up (up s 34 0 a1) 23 12 (1 <<< (a1 &&& 31))))).2.1)) from rfl]
  try dsimp only
  exact (nr_X4_fillRow_110 (itr_inv (B := B_X4_fillRow_18) (I := fun z => NN z.2.2 ∧ 0 ≤ (z.2.1).toInt) (fun z hz => nb_X4_fillRow_18 z hz.1 hz.2) BIG (0, 1, (up (up s 34 0 a1) 23 12 (1 <<< (a1 &&& 31)))) ⟨(nn_f rfl (nn_0 rfl hN)), (by decide : (0 : Int) ≤ (1 : Int32).toInt)⟩).1 (itr_inv (B := B_X4_fillRow_18) (I := fun z => NN z.2.2 ∧ 0 ≤ (z.2.1).toInt) (fun z hz => nb_X4_fillRow_18 z hz.1 hz.2) BIG (0, 1, (up (up s 34 0 a1) 23 12 (1 <<< (a1 &&& 31)))) ⟨(nn_f rfl (nn_0 rfl hN)), (by decide : (0 : Int) ≤ (1 : Int32).toInt)⟩).2)
theorem fwb_X4_fillRow_44 {a3 : Int32} {a4 : Int32} {x : Int32 × Int32 × Sg} {k j : Nat} (h23f12 : k ≠ 23 ∨ j ≠ 12) (h34 : k ≠ 34) : (B_X4_fillRow_44 a3 a4 x).2.2.2 k j = x.2.2 k j := by
  by_cases c0 : 6 ≤ x.1
  · rw [show (B_X4_fillRow_44 a3 a4 x) = (false, (x.1, x.2.1, x.2.2)) from ((if_pos c0).trans rfl)]
    first | done | (dsimp only; done) | ((try dsimp only); exact rfl)
  · by_cases c1 : (D_X11_hasBit (a4 &&& ((x.2.2 23 12) ^^^ (-1))) x.1) = 0
    · rw [show (B_X4_fillRow_44 a3 a4 x) = (true, ((x.1 + 1), x.2.1, x.2.2)) from ((if_neg c0).trans ((if_pos c1).trans rfl))]
      first | done | (dsimp only; done) | ((try dsimp only); exact rfl)
    · by_cases c2 : 6 ≤ x.2.1
      · rw [show (B_X4_fillRow_44 a3 a4 x) = (true, ((x.1 + 1), x.2.1, x.2.2)) from ((if_neg c0).trans ((if_neg c1).trans ((if_pos c2).trans rfl)))]
        first | done | (dsimp only; done) | ((try dsimp only); exact rfl)
      · rw [show (B_X4_fillRow_44 a3 a4 x) = (true, ((x.1 + 1), (x.2.1 + 1), (up (up x.2.2 34 x.2.1.toNatClampNeg x.1) 23 12 ((x.2.2 23 12) ||| (1 <<< (x.1 &&& 31)))))) from ((if_neg c0).trans ((if_neg c1).trans ((if_neg c2).trans rfl)))]
        first | done | (dsimp only; done) | ((try dsimp only); exact ((up_f h23f12).trans ((up_a h34).trans rfl)))
theorem fwr_X4_fillRow_104 {s : Sg} {a2 : Int32} {a3 : Int32} {k j : Nat} (h23f12 : k ≠ 23 ∨ j ≠ 12) (h34 : k ≠ 34) : (R_X4_fillRow_104 s a2 a3).2.2.2 k j = s k j := by
  rw [show (R_X4_fillRow_104 s a2 a3) = (true, ((a3 + 1), a2, s)) from rfl]
  first | done | (dsimp only; done) | ((try dsimp only); exact rfl)
theorem fwb_X4_fillRow_18 {x : Int32 × Int32 × Sg} {k j : Nat} (h23f12 : k ≠ 23 ∨ j ≠ 12) (h34 : k ≠ 34) : (B_X4_fillRow_18 x).2.2.2 k j = x.2.2 k j := by
  by_cases c0 : x.2.1 ≤ x.1
  · rw [show (B_X4_fillRow_18 x) = (false, (x.1, x.2.1, x.2.2)) from ((if_pos c0).trans rfl)]
    first | done | (dsimp only; done) | ((try dsimp only); exact rfl)
  · by_cases c1 : 6 ≤ x.1
    · rw [show (B_X4_fillRow_18 x) = (false, (x.1, x.2.1, x.2.2)) from ((if_neg c0).trans ((if_pos c1).trans rfl))]
      first | done | (dsimp only; done) | ((try dsimp only); exact rfl)
    · rw [show (B_X4_fillRow_18 x) = (R_X4_fillRow_104 ((itr (B_X4_fillRow_44 x.1 (D_X4_neededNow x.2.2 (x.2.2 34 x.1.toNatClampNeg))) BIG (0, x.2.1, x.2.2)).2.2) ((itr (B_X4_fillRow_44 x.1 (D_X4_neededNow x.2.2 (x.2.2 34 x.1.toNatClampNeg))) BIG (0, x.2.1, x.2.2)).2.1) x.1) from ((if_neg c0).trans ((if_neg c1).trans rfl))]
      first | done | (dsimp only; done) | ((try dsimp only); exact ((fwr_X4_fillRow_104 h23f12 h34).trans ((itr_inv (B := B_X4_fillRow_44 x.1 (D_X4_neededNow x.2.2 (x.2.2 34 x.1.toNatClampNeg))) (I := fun z => z.2.2 k j = x.2.2 k j) (fun z hz => (fwb_X4_fillRow_44 h23f12 h34).trans hz) BIG (0, x.2.1, x.2.2) rfl).trans rfl)))
theorem fwr_X4_fillRow_110 {s : Sg} {a2 : Int32} {k j : Nat} (h23f12 : k ≠ 23 ∨ j ≠ 12) (h34 : k ≠ 34) : (R_X4_fillRow_110 s a2).2 k j = s k j := by
  rw [show (R_X4_fillRow_110 s a2) = (a2, s) from rfl]
  first | done | (dsimp only; done) | ((try dsimp only); exact rfl)
theorem fw_X4_fillRow {s : Sg} {a1 : Int32} {k j : Nat} (h23f12 : k ≠ 23 ∨ j ≠ 12) (h34 : k ≠ 34) : (D_X4_fillRow s a1).2 k j = s k j := by
  rw [show (D_X4_fillRow s a1) = (R_X4_fillRow_110 ((itr (B_X4_fillRow_18) BIG (0, 1, (up (up s 34 0 a1) 23 12 (1 <<< (a1 &&& 31))))).2.2) ((itr (B_X4_fillRow_18) BIG (0, 1, (up (up s 34 0 a1) 23 12 (1 <<< (a1 &&& 31))))).2.1)) from rfl]
  first | done | (dsimp only; done) | ((try dsimp only); exact ((fwr_X4_fillRow_110 h23f12 h34).trans ((itr_inv (B := B_X4_fillRow_18) (I := fun z => z.2.2 k j = (up (up s 34 0 a1) 23 12 (1 <<< (a1 &&& 31))) k j) (fun z hz => (fwb_X4_fillRow_18 h23f12 h34).trans hz) BIG (0, 1, (up (up s 34 0 a1) 23 12 (1 <<< (a1 &&& 31)))) rfl).trans ((up_f h23f12).trans ((up_a h34).trans rfl)))))
-- LinkHarbour$LibraryTable.load
def fr_X4_load_5 (b w : Nat) (a1 : Int32) (x : Int32 × Int32) : EF := (5, [(0, .ref (b + 23)), (1, .int a1), (2, .int x.2), (3, .int x.1)], [])
def fe_X4_load_5 (b w : Nat) (a1 : Int32) (x : Int32 × Int32) : EF := (43, [(0, .ref (b + 23)), (1, .int a1), (2, .int x.2)], [])
noncomputable def B_X4_load_5 (s : Sg) (a1 : Int32) (x : Int32 × Int32) : Bool × (Int32 × Int32) := (if 6 ≤ x.1 then (false, (x.1, x.2)) else (if (D_X4_isLoaded s x.1) = 0 then (true, ((x.1 + 1), x.2)) else (true, ((x.1 + 1), (D_J9_max_7cf53 x.2 ((s 30 x.1.toNatClampNeg) + (s 24 x.1.toNatClampNeg)))))))
theorem b_X4_load_5 (hP : WOK b w H0) {s : Sg} {a1 : Int32} (x : Int32 × Int32) (o : Option Value) (h' : EH) (hN : NN s) (hv : 0 ≤ (x.1).toInt) (hc : (B_X4_load_5 s a1 x).1 = true → (x.1).toInt < 2147483647 → (B_X4_load_5 s a1 x).2.1 = x.1 + 1 → Rx sc g_X4_load 3 (fr_X4_load_5 b w a1 (B_X4_load_5 s a1 x).2) (wd b w wl H0 s, kn) o h') (he : (B_X4_load_5 s a1 x).1 = false → Rx sc g_X4_load 3 (fe_X4_load_5 b w a1 (B_X4_load_5 s a1 x).2) (wd b w wl H0 s, kn) o h') : Rx sc g_X4_load 3 (fr_X4_load_5 b w a1 x) (wd b w wl H0 s, kn) o h' := by
  show Rx sc g_X4_load 3 (5, [(0, .ref (b + 23)), (1, .int a1), (2, .int x.2), (3, .int x.1)], []) (wd b w wl H0 s, kn) o h'
  refine rx_k 2 (8, [(0, .ref (b + 23)), (1, .int a1), (2, .int x.2), (3, .int x.1)], [.int 6, .int x.1]) (fun _ _ => rfl) ?_
  by_cases c0 : 6 ≤ x.1
  · refine rx_icT rfl (bt c0) ?_
    rw [(show (B_X4_load_5 s a1 x) = (false, (x.1, x.2)) from ((if_pos c0).trans rfl))] at he
    dsimp only at he
    exact rx_lo am_X4_load (lo := [(0, .ref (b + 23)), (1, .int a1), (2, .int x.2)]) (List.forall_mem_cons.mpr ⟨List.mem_of_getElem? (i := 0) rfl, (List.forall_mem_cons.mpr ⟨List.mem_of_getElem? (i := 1) rfl, (List.forall_mem_cons.mpr ⟨List.mem_of_getElem? (i := 2) rfl, (fun _ h => absurd h List.not_mem_nil)⟩)⟩)⟩) rfl (he rfl)
  · refine rx_icF rfl (bf c0) rfl ?_
    refine rx_k 2 (13, [(0, .ref (b + 23)), (1, .int a1), (2, .int x.2), (3, .int x.1)], [.int x.1, .ref (b + 23)]) (fun _ _ => rfl) ?_
    refine rx_inv rfl rfl (rc_X4_isLoaded hP) rfl rfl rfl (q_recv (wg_23 hP)) rfl rfl ?_
    by_cases c1 : (D_X4_isLoaded s x.1) = 0
    · refine rx_ifT rfl (bt c1) ?_
      refine rx_k 2 (5, [(3, .int (x.1 + 1)), (0, .ref (b + 23)), (1, .int a1), (2, .int x.2)], []) (fun _ _ => rfl) ?_
      rw [(show (B_X4_load_5 s a1 x) = (true, ((x.1 + 1), x.2)) from ((if_neg c0).trans ((if_pos c1).trans rfl)))] at hc
      dsimp only at hc
      refine rx_lo am_X4_load (lo := [(0, .ref (b + 23)), (1, .int a1), (2, .int x.2), (3, .int (x.1 + 1))]) (List.forall_mem_cons.mpr ⟨List.mem_of_getElem? (i := 1) rfl, (List.forall_mem_cons.mpr ⟨List.mem_of_getElem? (i := 2) rfl, (List.forall_mem_cons.mpr ⟨List.mem_of_getElem? (i := 3) rfl, (List.forall_mem_cons.mpr ⟨List.mem_of_getElem? (i := 0) rfl, (fun _ h => absurd h List.not_mem_nil)⟩)⟩)⟩)⟩) rfl (hc rfl (lt_nle c0) rfl)
    · refine rx_ifF rfl (bf c1) rfl ?_
      refine rx_k 2 (21, [(0, .ref (b + 23)), (1, .int a1), (2, .int x.2), (3, .int x.1)], [.ref (b + 23), .int x.2]) (fun _ _ => rfl) ?_
      refine rx_getf rfl rfl (wg_23 hP) rfl ?_
      refine rx_k 1 (25, [(0, .ref (b + 23)), (1, .int a1), (2, .int x.2), (3, .int x.1)], [.int x.1, .ref (b + 30), .int x.2]) (fun _ _ => rfl) ?_
      refine rx_ild rfl rfl (wg_30 hP) (ar_at (rg_c hv c0 (m := 6) (n := 6) rfl)) ?_
      refine rx_k 1 (27, [(0, .ref (b + 23)), (1, .int a1), (2, .int x.2), (3, .int x.1)], [.ref (b + 23), .int (s 30 x.1.toNatClampNeg), .int x.2]) (fun _ _ => rfl) ?_
      refine rx_getf rfl rfl (wg_23 hP) rfl ?_
      refine rx_k 1 (31, [(0, .ref (b + 23)), (1, .int a1), (2, .int x.2), (3, .int x.1)], [.int x.1, .ref (b + 24), .int (s 30 x.1.toNatClampNeg), .int x.2]) (fun _ _ => rfl) ?_
      refine rx_ild rfl rfl (wg_24 hP) (ar_at (rg_c hv c0 (m := 6) (n := 6) rfl)) ?_
      refine rx_k 1 (33, [(0, .ref (b + 23)), (1, .int a1), (2, .int x.2), (3, .int x.1)], [.int ((s 30 x.1.toNatClampNeg) + (s 24 x.1.toNatClampNeg)), .int x.2]) (fun _ _ => rfl) ?_
      refine rx_inv rfl rfl (rc_J9_max_7cf53) rfl rfl rfl rfl rfl rfl ?_
      refine rx_k 3 (5, [(3, .int (x.1 + 1)), (2, .int (D_J9_max_7cf53 x.2 ((s 30 x.1.toNatClampNeg) + (s 24 x.1.toNatClampNeg)))), (0, .ref (b + 23)), (1, .int a1)], []) (fun _ _ => rfl) ?_
      rw [(show (B_X4_load_5 s a1 x) = (true, ((x.1 + 1), (D_J9_max_7cf53 x.2 ((s 30 x.1.toNatClampNeg) + (s 24 x.1.toNatClampNeg))))) from ((if_neg c0).trans ((if_neg c1).trans rfl)))] at hc
      dsimp only at hc
      refine rx_lo am_X4_load (lo := [(0, .ref (b + 23)), (1, .int a1), (2, .int (D_J9_max_7cf53 x.2 ((s 30 x.1.toNatClampNeg) + (s 24 x.1.toNatClampNeg)))), (3, .int (x.1 + 1))]) (List.forall_mem_cons.mpr ⟨List.mem_of_getElem? (i := 2) rfl, (List.forall_mem_cons.mpr ⟨List.mem_of_getElem? (i := 3) rfl, (List.forall_mem_cons.mpr ⟨List.mem_of_getElem? (i := 1) rfl, (List.forall_mem_cons.mpr ⟨List.mem_of_getElem? (i := 0) rfl, (fun _ h => absurd h List.not_mem_nil)⟩)⟩)⟩)⟩) rfl (hc rfl (lt_nle c0) rfl)
noncomputable def R_X4_load_43 (s : Sg) (a1 : Int32) (a2 : Int32) : Sg := (if (D_X4_has s a1) = 0 then s else (up s 30 a1.toNatClampNeg (D_X11_roundUp a2 64)))
theorem r_X4_load_43 (hP : WOK b w H0) {s : Sg} {a1 : Int32} {a2 : Int32} (hN : NN s) : Rx sc g_X4_load 3 ((43, [(0, .ref (b + 23)), (1, .int a1), (2, .int a2)], [])) (wd b w wl H0 s, kn) none (wd b w wl H0 (R_X4_load_43 s a1 a2), kn) := by
  show Rx sc g_X4_load 3 (43, [(0, .ref (b + 23)), (1, .int a1), (2, .int a2)], []) (wd b w wl H0 s, kn) none (wd b w wl H0 (R_X4_load_43 s a1 a2), kn)
  refine rx_k 2 (45, [(0, .ref (b + 23)), (1, .int a1), (2, .int a2)], [.int a1, .ref (b + 23)]) (fun _ _ => rfl) ?_
  refine rx_inv rfl rfl (rc_X4_has hP) rfl rfl rfl (q_recv (wg_23 hP)) rfl rfl ?_
  by_cases c0 : (D_X4_has s a1) = 0
  · refine rx_ifT rfl (bt c0) ?_
    rw [(show (R_X4_load_43 s a1 a2) = s from ((if_pos c0).trans rfl))]
    try dsimp only
    exact rx_rv rfl
  · refine rx_ifF rfl (bf c0) rfl ?_
    refine rx_k 1 (52, [(0, .ref (b + 23)), (1, .int a1), (2, .int a2)], [.ref (b + 23)]) (fun _ _ => rfl) ?_
    refine rx_getf rfl rfl (wg_23 hP) rfl ?_
    refine rx_k 3 (59, [(0, .ref (b + 23)), (1, .int a1), (2, .int a2)], [.int 64, .int a2, .int a1, .ref (b + 30)]) (fun _ _ => rfl) ?_
    refine rx_inv rfl rfl (rc_X11_roundUp) rfl rfl rfl rfl rfl rfl ?_
    refine rx_ist rfl rfl (wg_30 hP) rfl (ar_at (rg_X4_has c0)) (ws_30 hP (rg_X4_has c0)) ?_
    rw [(show (R_X4_load_43 s a1 a2) = (up s 30 a1.toNatClampNeg (D_X11_roundUp a2 64)) from ((if_neg c0).trans rfl))]
    try dsimp only
    exact rx_rv rfl
theorem nr_X4_load_43 {s : Sg} {a1 : Int32} {a2 : Int32} (hN : NN s) : NN ((R_X4_load_43 s a1 a2)) := by
  by_cases c0 : (D_X4_has s a1) = 0
  · rw [show (R_X4_load_43 s a1 a2) = s from ((if_pos c0).trans rfl)]
    try dsimp only
    exact hN
  · rw [show (R_X4_load_43 s a1 a2) = (up s 30 a1.toNatClampNeg (D_X11_roundUp a2 64)) from ((if_neg c0).trans rfl)]
    try dsimp only
    exact (nn_0 rfl hN)
noncomputable def D_X4_load (s : Sg) (a1 : Int32) : Sg := (R_X4_load_43 s a1 ((itr (B_X4_load_5 s a1) BIG (0, 64)).2))
theorem m_X4_load (hP : WOK b w H0) {s : Sg} {a1 : Int32} (hN : NN s) : Rx sc g_X4_load 3 ((0, [(0, .ref (b + 23)), (1, .int a1)], [])) (wd b w wl H0 s, kn) none (wd b w wl H0 (D_X4_load s a1), kn) := by
  show Rx sc g_X4_load 3 (0, [(0, .ref (b + 23)), (1, .int a1)], []) (wd b w wl H0 s, kn) none (wd b w wl H0 (D_X4_load s a1), kn)
  refine rx_k 4 (5, [(3, .int 0), (2, .int 64), (0, .ref (b + 23)), (1, .int a1)], []) (fun _ _ => rfl) ?_
  refine rx_lo am_X4_load (lo := [(0, .ref (b + 23)), (1, .int a1), (2, .int 64), (3, .int 0)]) (List.forall_mem_cons.mpr ⟨List.mem_of_getElem? (i := 2) rfl, (List.forall_mem_cons.mpr ⟨List.mem_of_getElem? (i := 3) rfl, (List.forall_mem_cons.mpr ⟨List.mem_of_getElem? (i := 1) rfl, (List.forall_mem_cons.mpr ⟨List.mem_of_getElem? (i := 0) rfl, (fun _ h => absurd h List.not_mem_nil)⟩)⟩)⟩)⟩) rfl ?_
  refine rx_loop (B := B_X4_load_5 s a1) (fr := (fr_X4_load_5 b w a1)) (E := (fe_X4_load_5 b w a1)) (hp := (fun z => (wd b w wl H0 s, kn))) (vr := fun z => z.1) (I := (fun _ => True)) (fun z o1 h1 hI1 hv1 hc1 he1 => b_X4_load_5 hP z o1 h1 hN hv1 hc1 he1) (fun _ _ => trivial) BIG (0, 64) _ _ trivial (by decide : (0 : Int) ≤ (0 : Int32).toInt) (le_enough (by decide : (0 : Int) ≤ (0 : Int32).toInt)) ?_
  rw [(show (D_X4_load s a1) = (R_X4_load_43 s a1 ((itr (B_X4_load_5 s a1) BIG (0, 64)).2)) from rfl)]
  exact r_X4_load_43 hP hN
theorem rc_X4_load (hP : WOK b w H0) {s : Sg} {a1 : Int32} (hN : NN s) : Rc sc 4 67 [.ref (b + 23), .int a1] (wd b w wl H0 s, kn) none (wd b w wl H0 (D_X4_load s a1), kn) := rx_mc (m_X4_load hP hN) rfl rfl (Nat.ble_eq_true_of_le (Nat.le_refl _)) (Nat.ble_eq_true_of_le (Nat.le_refl _))
theorem nn_X4_load {s : Sg} {a1 : Int32} (hN : NN s) : NN (D_X4_load s a1) := by
  rw [show (D_X4_load s a1) = (R_X4_load_43 s a1 ((itr (B_X4_load_5 s a1) BIG (0, 64)).2)) from rfl]
  try dsimp only
  exact (nr_X4_load_43 hN)
theorem fwr_X4_load_43 {s : Sg} {a1 : Int32} {a2 : Int32} {k j : Nat} (h30 : k ≠ 30) : (R_X4_load_43 s a1 a2) k j = s k j := by
  by_cases c0 : (D_X4_has s a1) = 0
  · rw [show (R_X4_load_43 s a1 a2) = s from ((if_pos c0).trans rfl)]
    first | done | (dsimp only; done) | ((try dsimp only); exact rfl)
  · rw [show (R_X4_load_43 s a1 a2) = (up s 30 a1.toNatClampNeg (D_X11_roundUp a2 64)) from ((if_neg c0).trans rfl)]
    first | done | (dsimp only; done) | ((try dsimp only); exact ((up_a h30).trans rfl))
theorem fw_X4_load {s : Sg} {a1 : Int32} {k j : Nat} (h30 : k ≠ 30) : (D_X4_load s a1) k j = s k j := by
  rw [show (D_X4_load s a1) = (R_X4_load_43 s a1 ((itr (B_X4_load_5 s a1) BIG (0, 64)).2)) from rfl]
  first | done | (dsimp only; done) | ((try dsimp only); exact ((fwr_X4_load_43 h30).trans rfl))
-- LinkHarbour$LibraryTable.makeGlobal
noncomputable def D_X4_makeGlobal (s : Sg) (a1 : Int32) : Sg := (if (D_X4_placeAmongGlobal s a1) = (-1) then (if 6 ≤ (s 23 14) then s else (up (up s 32 (s 23 14).toNatClampNeg a1) 23 14 ((s 23 14) + 1))) else s)
theorem m_X4_makeGlobal (hP : WOK b w H0) {s : Sg} {a1 : Int32} (hN : NN s) : Rx sc g_X4_makeGlobal 2 ((0, [(0, .ref (b + 23)), (1, .int a1)], [])) (wd b w wl H0 s, kn) none (wd b w wl H0 (D_X4_makeGlobal s a1), kn) := by
  show Rx sc g_X4_makeGlobal 2 (0, [(0, .ref (b + 23)), (1, .int a1)], []) (wd b w wl H0 s, kn) none (wd b w wl H0 (D_X4_makeGlobal s a1), kn)
  refine rx_k 2 (2, [(0, .ref (b + 23)), (1, .int a1)], [.int a1, .ref (b + 23)]) (fun _ _ => rfl) ?_
  refine rx_inv rfl rfl (rc_X4_placeAmongGlobal hP hN) rfl rfl rfl (q_recv (wg_23 hP)) rfl rfl ?_
  refine rx_k 1 (6, [(0, .ref (b + 23)), (1, .int a1)], [.int (-1), .int (D_X4_placeAmongGlobal s a1)]) (fun _ _ => rfl) ?_
  by_cases c0 : (D_X4_placeAmongGlobal s a1) = (-1)
  · refine rx_icF rfl (nf c0) rfl ?_
    refine rx_k 1 (10, [(0, .ref (b + 23)), (1, .int a1)], [.ref (b + 23)]) (fun _ _ => rfl) ?_
    refine rx_getf rfl rfl (wg_23 hP) rfl ?_
    refine rx_k 1 (15, [(0, .ref (b + 23)), (1, .int a1)], [.int 6, .int (s 23 14)]) (fun _ _ => rfl) ?_
    by_cases c1 : 6 ≤ (s 23 14)
    · refine rx_icT rfl (bt c1) ?_
      rw [(show (D_X4_makeGlobal s a1) = s from ((if_pos c0).trans ((if_pos c1).trans rfl)))]
      try dsimp only
      exact rx_rv rfl
    · refine rx_icF rfl (bf c1) rfl ?_
      refine rx_k 1 (19, [(0, .ref (b + 23)), (1, .int a1)], [.ref (b + 23)]) (fun _ _ => rfl) ?_
      refine rx_getf rfl rfl (wg_23 hP) rfl ?_
      refine rx_k 1 (23, [(0, .ref (b + 23)), (1, .int a1)], [.ref (b + 23), .ref (b + 32)]) (fun _ _ => rfl) ?_
      refine rx_getf rfl rfl (wg_23 hP) rfl ?_
      refine rx_k 1 (27, [(0, .ref (b + 23)), (1, .int a1)], [.int a1, .int (s 23 14), .ref (b + 32)]) (fun _ _ => rfl) ?_
      refine rx_ist rfl rfl (wg_32 hP) rfl (ar_at (rg_c (hN 23 14 rfl) c1 (m := 6) (n := 6) rfl)) (ws_32 hP (rg_c (hN 23 14 rfl) c1 (m := 6) (n := 6) rfl)) ?_
      refine rx_k 2 (30, [(0, .ref (b + 23)), (1, .int a1)], [.ref (b + 23), .ref (b + 23)]) (fun _ _ => rfl) ?_
      refine rx_getf (v := .int (s 23 14)) rfl rfl (wg_23 hP) (congrArg (fun z => some (Value.int z)) (rd_nk (by decide))) ?_
      refine rx_k 2 (35, [(0, .ref (b + 23)), (1, .int a1)], [.int ((s 23 14) + 1), .ref (b + 23)]) (fun _ _ => rfl) ?_
      refine rx_putf rfl rfl (wg_23 hP) rfl (ws_23_14 hP) ?_
      rw [(show (D_X4_makeGlobal s a1) = (up (up s 32 (s 23 14).toNatClampNeg a1) 23 14 ((s 23 14) + 1)) from ((if_pos c0).trans ((if_neg c1).trans rfl)))]
      try dsimp only
      exact rx_rv rfl
  · refine rx_icT rfl (nt c0) ?_
    rw [(show (D_X4_makeGlobal s a1) = s from ((if_neg c0).trans rfl))]
    try dsimp only
    exact rx_rv rfl
theorem rc_X4_makeGlobal (hP : WOK b w H0) {s : Sg} {a1 : Int32} (hN : NN s) : Rc sc 3 68 [.ref (b + 23), .int a1] (wd b w wl H0 s, kn) none (wd b w wl H0 (D_X4_makeGlobal s a1), kn) := rx_mc (m_X4_makeGlobal hP hN) rfl rfl (Nat.ble_eq_true_of_le (Nat.le_refl _)) (Nat.ble_eq_true_of_le (Nat.le_refl _))
theorem nn_X4_makeGlobal {s : Sg} {a1 : Int32} (hN : NN s) : NN (D_X4_makeGlobal s a1) := by
  by_cases c0 : (D_X4_placeAmongGlobal s a1) = (-1)
  · by_cases c1 : 6 ≤ (s 23 14)
    · rw [show (D_X4_makeGlobal s a1) = s from ((if_pos c0).trans ((if_pos c1).trans rfl))]
      try dsimp only
      exact hN
    · rw [show (D_X4_makeGlobal s a1) = (up (up s 32 (s 23 14).toNatClampNeg a1) 23 14 ((s 23 14) + 1)) from ((if_pos c0).trans ((if_neg c1).trans rfl))]
      try dsimp only
      exact (nn_c (nn_inc (rg_c (hN 23 14 rfl) c1 (m := 6) (n := 6) rfl).1 (lt_nle c1) (by decide)) (nn_0 rfl hN))
  · rw [show (D_X4_makeGlobal s a1) = s from ((if_neg c0).trans rfl)]
    try dsimp only
    exact hN
theorem fw_X4_makeGlobal {s : Sg} {a1 : Int32} {k j : Nat} (h23f14 : k ≠ 23 ∨ j ≠ 14) (h32 : k ≠ 32) : (D_X4_makeGlobal s a1) k j = s k j := by
  by_cases c0 : (D_X4_placeAmongGlobal s a1) = (-1)
  · by_cases c1 : 6 ≤ (s 23 14)
    · rw [show (D_X4_makeGlobal s a1) = s from ((if_pos c0).trans ((if_pos c1).trans rfl))]
      first | done | (dsimp only; done) | ((try dsimp only); exact rfl)
    · rw [show (D_X4_makeGlobal s a1) = (up (up s 32 (s 23 14).toNatClampNeg a1) 23 14 ((s 23 14) + 1)) from ((if_pos c0).trans ((if_neg c1).trans rfl))]
      first | done | (dsimp only; done) | ((try dsimp only); exact ((up_f h23f14).trans ((up_a h32).trans rfl)))
  · rw [show (D_X4_makeGlobal s a1) = s from ((if_neg c0).trans rfl)]
    first | done | (dsimp only; done) | ((try dsimp only); exact rfl)
end DD
