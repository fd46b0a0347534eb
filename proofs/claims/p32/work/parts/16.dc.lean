section DD
variable {sc : Nat × (Nat → Int32)} {b w wl : Nat} {H0 : List EC} {kn : Nat × Nat}
-- LinkHarbour$Settling.align
noncomputable def D_X9_align (q : Nat) (s : Sg) (a1 : Int32) : Int32 := (if (D_X11_isName a1) = 0 then 1 else (s (q + 11) a1.toNatClampNeg))
theorem m_X9_align (hP : WOK b w H0) {q : Nat} (hq : q = 38 ∨ q = 60) {s : Sg} {a1 : Int32} : Rx sc g_X9_align 1 ((0, [(0, .ref (b + (q + 5))), (1, .int a1)], [])) (wd b w wl H0 s, kn) (some (.int (D_X9_align q s a1))) (wd b w wl H0 s, kn) := by
  show Rx sc g_X9_align 1 (0, [(0, .ref (b + (q + 5))), (1, .int a1)], []) (wd b w wl H0 s, kn) (some (.int (D_X9_align q s a1))) (wd b w wl H0 s, kn)
  refine rx_k 1 (1, [(0, .ref (b + (q + 5))), (1, .int a1)], [.int a1]) (fun _ _ => rfl) ?_
  refine rx_inv rfl rfl (rc_X11_isName) rfl rfl rfl rfl rfl rfl ?_
  by_cases c0 : (D_X11_isName a1) = 0
  · refine rx_ifT rfl (bt c0) ?_
    refine rx_k 1 (17, [(0, .ref (b + (q + 5))), (1, .int a1)], [.int 1]) (fun _ _ => rfl) ?_
    rw [(show (D_X9_align q s a1) = 1 from ((if_pos c0).trans rfl))]
    try dsimp only
    exact rx_ri rfl
  · refine rx_ifF rfl (bf c0) rfl ?_
    refine rx_k 1 (8, [(0, .ref (b + (q + 5))), (1, .int a1)], [.ref (b + (q + 5))]) (fun _ _ => rfl) ?_
    refine rx_getf rfl rfl (wl_5 hP hq) rfl ?_
    refine rx_k 1 (12, [(0, .ref (b + (q + 5))), (1, .int a1)], [.int a1, .ref (b + (q + 11))]) (fun _ _ => rfl) ?_
    refine rx_ild rfl rfl (wl_11 hP hq) (ar_at (rg_isName c0)) ?_
    refine rx_k 1 (17, [(0, .ref (b + (q + 5))), (1, .int a1)], [.int (s (q + 11) a1.toNatClampNeg)]) (fun _ _ => rfl) ?_
    rw [(show (D_X9_align q s a1) = (s (q + 11) a1.toNatClampNeg) from ((if_neg c0).trans rfl))]
    try dsimp only
    exact rx_ri rfl
theorem rc_X9_align (hP : WOK b w H0) {q : Nat} (hq : q = 38 ∨ q = 60) {s : Sg} {a1 : Int32} : Rc sc 2 146 [.ref (b + (q + 5)), .int a1] (wd b w wl H0 s, kn) (some (.int (D_X9_align q s a1))) (wd b w wl H0 s, kn) := rx_mc (m_X9_align hP hq) rfl rfl (Nat.ble_eq_true_of_le (Nat.le_refl _)) (Nat.ble_eq_true_of_le (Nat.le_refl _))
-- LinkHarbour$Settling.size
noncomputable def D_X9_size (q : Nat) (s : Sg) (a1 : Int32) : Int32 := (if (D_X11_isName a1) = 0 then 0 else (s (q + 10) a1.toNatClampNeg))
theorem m_X9_size (hP : WOK b w H0) {q : Nat} (hq : q = 38 ∨ q = 60) {s : Sg} {a1 : Int32} : Rx sc g_X9_size 1 ((0, [(0, .ref (b + (q + 5))), (1, .int a1)], [])) (wd b w wl H0 s, kn) (some (.int (D_X9_size q s a1))) (wd b w wl H0 s, kn) := by
  show Rx sc g_X9_size 1 (0, [(0, .ref (b + (q + 5))), (1, .int a1)], []) (wd b w wl H0 s, kn) (some (.int (D_X9_size q s a1))) (wd b w wl H0 s, kn)
  refine rx_k 1 (1, [(0, .ref (b + (q + 5))), (1, .int a1)], [.int a1]) (fun _ _ => rfl) ?_
  refine rx_inv rfl rfl (rc_X11_isName) rfl rfl rfl rfl rfl rfl ?_
  by_cases c0 : (D_X11_isName a1) = 0
  · refine rx_ifT rfl (bt c0) ?_
    refine rx_k 1 (17, [(0, .ref (b + (q + 5))), (1, .int a1)], [.int 0]) (fun _ _ => rfl) ?_
    rw [(show (D_X9_size q s a1) = 0 from ((if_pos c0).trans rfl))]
    try dsimp only
    exact rx_ri rfl
  · refine rx_ifF rfl (bf c0) rfl ?_
    refine rx_k 1 (8, [(0, .ref (b + (q + 5))), (1, .int a1)], [.ref (b + (q + 5))]) (fun _ _ => rfl) ?_
    refine rx_getf rfl rfl (wl_5 hP hq) rfl ?_
    refine rx_k 1 (12, [(0, .ref (b + (q + 5))), (1, .int a1)], [.int a1, .ref (b + (q + 10))]) (fun _ _ => rfl) ?_
    refine rx_ild rfl rfl (wl_10 hP hq) (ar_at (rg_isName c0)) ?_
    refine rx_k 1 (17, [(0, .ref (b + (q + 5))), (1, .int a1)], [.int (s (q + 10) a1.toNatClampNeg)]) (fun _ _ => rfl) ?_
    rw [(show (D_X9_size q s a1) = (s (q + 10) a1.toNatClampNeg) from ((if_neg c0).trans rfl))]
    try dsimp only
    exact rx_ri rfl
theorem rc_X9_size (hP : WOK b w H0) {q : Nat} (hq : q = 38 ∨ q = 60) {s : Sg} {a1 : Int32} : Rc sc 2 145 [.ref (b + (q + 5)), .int a1] (wd b w wl H0 s, kn) (some (.int (D_X9_size q s a1))) (wd b w wl H0 s, kn) := rx_mc (m_X9_size hP hq) rfl rfl (Nat.ble_eq_true_of_le (Nat.le_refl _)) (Nat.ble_eq_true_of_le (Nat.le_refl _))
-- LinkHarbour$Layout.placeCommons
def fr_X3_placeCommons_2 (b w : Nat) (q : Nat) (x : Int32 × Sg) : EF := (2, [(0, .ref (b + (q + 15))), (1, .int x.1)], [])
def fe_X3_placeCommons_2 (b w : Nat) (q : Nat) (x : Int32 × Sg) : EF := (92, [], [])
noncomputable def B_X3_placeCommons_2 (q : Nat) (x : Int32 × Sg) : Bool × (Int32 × Sg) := (if 20 ≤ x.1 then (false, (x.1, x.2)) else (if (D_X7_hasCommon q x.2 x.1) = 0 then (true, ((x.1 + 1), (up x.2 (q + 21) x.1.toNatClampNeg (-1)))) else (true, ((x.1 + 1), (up (up (up x.2 (q + 21) x.1.toNatClampNeg (D_X11_roundUp (x.2 (q + 15) 11) (D_X9_align q x.2 x.1))) (q + 15) 12 ((x.2 (q + 15) 12) + (D_X9_size q (up x.2 (q + 21) x.1.toNatClampNeg (D_X11_roundUp (x.2 (q + 15) 11) (D_X9_align q x.2 x.1))) x.1))) (q + 15) 11 ((D_X11_roundUp (x.2 (q + 15) 11) (D_X9_align q x.2 x.1)) + (D_X9_size q (up (up x.2 (q + 21) x.1.toNatClampNeg (D_X11_roundUp (x.2 (q + 15) 11) (D_X9_align q x.2 x.1))) (q + 15) 12 ((x.2 (q + 15) 12) + (D_X9_size q (up x.2 (q + 21) x.1.toNatClampNeg (D_X11_roundUp (x.2 (q + 15) 11) (D_X9_align q x.2 x.1))) x.1))) x.1)))))))
theorem b_X3_placeCommons_2 (hP : WOK b w H0) {q : Nat} (hq : q = 38 ∨ q = 60) (x : Int32 × Sg) (o : Option Value) (h' : EH) (hN : NN x.2) (hv : 0 ≤ (x.1).toInt) (hc : (B_X3_placeCommons_2 q x).1 = true → (x.1).toInt < 2147483647 → (B_X3_placeCommons_2 q x).2.1 = x.1 + 1 → Rx sc g_X3_placeCommons 2 (fr_X3_placeCommons_2 b w q (B_X3_placeCommons_2 q x).2) (wd b w wl H0 (B_X3_placeCommons_2 q x).2.2, kn) o h') (he : (B_X3_placeCommons_2 q x).1 = false → Rx sc g_X3_placeCommons 2 (fe_X3_placeCommons_2 b w q (B_X3_placeCommons_2 q x).2) (wd b w wl H0 (B_X3_placeCommons_2 q x).2.2, kn) o h') : Rx sc g_X3_placeCommons 2 (fr_X3_placeCommons_2 b w q x) (wd b w wl H0 x.2, kn) o h' := by
  show Rx sc g_X3_placeCommons 2 (2, [(0, .ref (b + (q + 15))), (1, .int x.1)], []) (wd b w wl H0 x.2, kn) o h'
  refine rx_k 2 (5, [(0, .ref (b + (q + 15))), (1, .int x.1)], [.int 20, .int x.1]) (fun _ _ => rfl) ?_
  by_cases c0 : 20 ≤ x.1
  · refine rx_icT rfl (bt c0) ?_
    rw [(show (B_X3_placeCommons_2 q x) = (false, (x.1, x.2)) from ((if_pos c0).trans rfl))] at he
    dsimp only at he
    exact rx_lo am_X3_placeCommons (lo := []) (fun _ h => absurd h List.not_mem_nil) rfl (he rfl)
  · refine rx_icF rfl (bf c0) rfl ?_
    refine rx_k 1 (9, [(0, .ref (b + (q + 15))), (1, .int x.1)], [.ref (b + (q + 15))]) (fun _ _ => rfl) ?_
    refine rx_getf rfl rfl (wl_15 hP hq) rfl ?_
    refine rx_k 1 (13, [(0, .ref (b + (q + 15))), (1, .int x.1)], [.int x.1, .ref (b + (q + 12))]) (fun _ _ => rfl) ?_
    refine rx_inv rfl rfl (rc_X7_hasCommon hP hq) rfl rfl rfl (q_recv (wl_12 hP hq)) rfl rfl ?_
    by_cases c1 : (D_X7_hasCommon q x.2 x.1) = 0
    · refine rx_ifT rfl (bt c1) ?_
      refine rx_k 1 (80, [(0, .ref (b + (q + 15))), (1, .int x.1)], [.ref (b + (q + 15))]) (fun _ _ => rfl) ?_
      refine rx_getf rfl rfl (wl_15 hP hq) rfl ?_
      refine rx_k 2 (85, [(0, .ref (b + (q + 15))), (1, .int x.1)], [.int (-1), .int x.1, .ref (b + (q + 21))]) (fun _ _ => rfl) ?_
      refine rx_ist rfl rfl (wl_21 hP hq) rfl (ar_at (rg_c hv c0 (m := 20) (n := 20) rfl)) (wz_21 hP hq (rg_c hv c0 (m := 20) (n := 20) rfl)) ?_
      refine rx_k 2 (2, [(1, .int (x.1 + 1)), (0, .ref (b + (q + 15)))], []) (fun _ _ => rfl) ?_
      rw [(show (B_X3_placeCommons_2 q x) = (true, ((x.1 + 1), (up x.2 (q + 21) x.1.toNatClampNeg (-1)))) from ((if_neg c0).trans ((if_pos c1).trans rfl)))] at hc
      dsimp only at hc
      refine rx_lo am_X3_placeCommons (lo := [(0, .ref (b + (q + 15))), (1, .int (x.1 + 1))]) (List.forall_mem_cons.mpr ⟨List.mem_of_getElem? (i := 1) rfl, (List.forall_mem_cons.mpr ⟨List.mem_of_getElem? (i := 0) rfl, (fun _ h => absurd h List.not_mem_nil)⟩)⟩) rfl (hc rfl (lt_nle c0) rfl)
    · refine rx_ifF rfl (bf c1) rfl ?_
      refine rx_k 1 (20, [(0, .ref (b + (q + 15))), (1, .int x.1)], [.ref (b + (q + 15))]) (fun _ _ => rfl) ?_
      refine rx_getf rfl rfl (wl_15 hP hq) rfl ?_
      refine rx_k 2 (25, [(0, .ref (b + (q + 15))), (1, .int x.1)], [.ref (b + (q + 15)), .int x.1, .ref (b + (q + 21))]) (fun _ _ => rfl) ?_
      refine rx_getf rfl rfl (wl_15 hP hq) rfl ?_
      refine rx_k 1 (29, [(0, .ref (b + (q + 15))), (1, .int x.1)], [.ref (b + (q + 15)), .int (x.2 (q + 15) 11), .int x.1, .ref (b + (q + 21))]) (fun _ _ => rfl) ?_
      refine rx_getf rfl rfl (wl_15 hP hq) rfl ?_
      refine rx_k 1 (33, [(0, .ref (b + (q + 15))), (1, .int x.1)], [.int x.1, .ref (b + (q + 5)), .int (x.2 (q + 15) 11), .int x.1, .ref (b + (q + 21))]) (fun _ _ => rfl) ?_
      refine rx_inv rfl rfl (rc_X9_align hP hq) rfl rfl rfl (q_recv (wl_5 hP hq)) rfl rfl ?_
      refine rx_inv rfl rfl (rc_X11_roundUp) rfl rfl rfl rfl rfl rfl ?_
      refine rx_ist rfl rfl (wl_21 hP hq) rfl (ar_at (rg_c hv c0 (m := 20) (n := 20) rfl)) (wz_21 hP hq (rg_c hv c0 (m := 20) (n := 20) rfl)) ?_
      refine rx_k 2 (42, [(0, .ref (b + (q + 15))), (1, .int x.1)], [.ref (b + (q + 15)), .ref (b + (q + 15))]) (fun _ _ => rfl) ?_
      refine rx_getf (v := .int (x.2 (q + 15) 12)) rfl rfl (wl_15 hP hq) (congrArg (fun z => some (Value.int z)) (rd_nk (by omega))) ?_
      refine rx_k 1 (46, [(0, .ref (b + (q + 15))), (1, .int x.1)], [.ref (b + (q + 15)), .int (x.2 (q + 15) 12), .ref (b + (q + 15))]) (fun _ _ => rfl) ?_
      refine rx_getf rfl rfl (wl_15 hP hq) rfl ?_
      refine rx_k 1 (50, [(0, .ref (b + (q + 15))), (1, .int x.1)], [.int x.1, .ref (b + (q + 5)), .int (x.2 (q + 15) 12), .ref (b + (q + 15))]) (fun _ _ => rfl) ?_
      refine rx_inv rfl rfl (rc_X9_size hP hq) rfl rfl rfl (q_recv (wl_5 hP hq)) rfl rfl ?_
      refine rx_k 1 (54, [(0, .ref (b + (q + 15))), (1, .int x.1)], [.int ((x.2 (q + 15) 12) + (D_X9_size q (up x.2 (q + 21) x.1.toNatClampNeg (D_X11_roundUp (x.2 (q + 15) 11) (D_X9_align q x.2 x.1))) x.1)), .ref (b + (q + 15))]) (fun _ _ => rfl) ?_
      refine rx_putf rfl rfl (wl_15 hP hq) rfl (wz_15_12 hP hq) ?_
      refine rx_k 2 (59, [(0, .ref (b + (q + 15))), (1, .int x.1)], [.ref (b + (q + 15)), .ref (b + (q + 15))]) (fun _ _ => rfl) ?_
      refine rx_getf rfl rfl (wl_15 hP hq) rfl ?_
      refine rx_k 1 (63, [(0, .ref (b + (q + 15))), (1, .int x.1)], [.int x.1, .ref (b + (q + 21)), .ref (b + (q + 15))]) (fun _ _ => rfl) ?_
      refine rx_ild (x := (D_X11_roundUp (x.2 (q + 15) 11) (D_X9_align q x.2 x.1))) rfl rfl (wl_21 hP hq) ((ar_at (rg_c hv c0 (m := 20) (n := 20) rfl)).trans (congrArg (fun z => some (Value.int z)) ((rd_nk (by omega)).trans rd_eq))) ?_
      refine rx_k 1 (65, [(0, .ref (b + (q + 15))), (1, .int x.1)], [.ref (b + (q + 15)), .int (D_X11_roundUp (x.2 (q + 15) 11) (D_X9_align q x.2 x.1)), .ref (b + (q + 15))]) (fun _ _ => rfl) ?_
      refine rx_getf rfl rfl (wl_15 hP hq) rfl ?_
      refine rx_k 1 (69, [(0, .ref (b + (q + 15))), (1, .int x.1)], [.int x.1, .ref (b + (q + 5)), .int (D_X11_roundUp (x.2 (q + 15) 11) (D_X9_align q x.2 x.1)), .ref (b + (q + 15))]) (fun _ _ => rfl) ?_
      refine rx_inv rfl rfl (rc_X9_size hP hq) rfl rfl rfl (q_recv (wl_5 hP hq)) rfl rfl ?_
      refine rx_k 1 (73, [(0, .ref (b + (q + 15))), (1, .int x.1)], [.int ((D_X11_roundUp (x.2 (q + 15) 11) (D_X9_align q x.2 x.1)) + (D_X9_size q (up (up x.2 (q + 21) x.1.toNatClampNeg (D_X11_roundUp (x.2 (q + 15) 11) (D_X9_align q x.2 x.1))) (q + 15) 12 ((x.2 (q + 15) 12) + (D_X9_size q (up x.2 (q + 21) x.1.toNatClampNeg (D_X11_roundUp (x.2 (q + 15) 11) (D_X9_align q x.2 x.1))) x.1))) x.1)), .ref (b + (q + 15))]) (fun _ _ => rfl) ?_
      refine rx_putf rfl rfl (wl_15 hP hq) rfl (wz_15_11 hP hq) ?_
      refine rx_k 3 (2, [(1, .int (x.1 + 1)), (0, .ref (b + (q + 15)))], []) (fun _ _ => rfl) ?_
      rw [(show (B_X3_placeCommons_2 q x) = (true, ((x.1 + 1), (up (up (up x.2 (q + 21) x.1.toNatClampNeg (D_X11_roundUp (x.2 (q + 15) 11) (D_X9_align q x.2 x.1))) (q + 15) 12 ((x.2 (q + 15) 12) + (D_X9_size q (up x.2 (q + 21) x.1.toNatClampNeg (D_X11_roundUp (x.2 (q + 15) 11) (D_X9_align q x.2 x.1))) x.1))) (q + 15) 11 ((D_X11_roundUp (x.2 (q + 15) 11) (D_X9_align q x.2 x.1)) + (D_X9_size q (up (up x.2 (q + 21) x.1.toNatClampNeg (D_X11_roundUp (x.2 (q + 15) 11) (D_X9_align q x.2 x.1))) (q + 15) 12 ((x.2 (q + 15) 12) + (D_X9_size q (up x.2 (q + 21) x.1.toNatClampNeg (D_X11_roundUp (x.2 (q + 15) 11) (D_X9_align q x.2 x.1))) x.1))) x.1))))) from ((if_neg c0).trans ((if_neg c1).trans rfl)))] at hc
      dsimp only at hc
      refine rx_lo am_X3_placeCommons (lo := [(0, .ref (b + (q + 15))), (1, .int (x.1 + 1))]) (List.forall_mem_cons.mpr ⟨List.mem_of_getElem? (i := 1) rfl, (List.forall_mem_cons.mpr ⟨List.mem_of_getElem? (i := 0) rfl, (fun _ h => absurd h List.not_mem_nil)⟩)⟩) rfl (hc rfl (lt_nle c0) rfl)
theorem nb_X3_placeCommons_2 {q : Nat} (hq : q = 38 ∨ q = 60) (x : Int32 × Sg) (hN : NN x.2) : NN ((B_X3_placeCommons_2 q x).2.2) := by
  by_cases c0 : 20 ≤ x.1
  · rw [show (B_X3_placeCommons_2 q x) = (false, (x.1, x.2)) from ((if_pos c0).trans rfl)]
    try dsimp only
    exact hN
  · by_cases c1 : (D_X7_hasCommon q x.2 x.1) = 0
    · rw [show (B_X3_placeCommons_2 q x) = (true, ((x.1 + 1), (up x.2 (q + 21) x.1.toNatClampNeg (-1)))) from ((if_neg c0).trans ((if_pos c1).trans rfl))]
      try dsimp only
      exact (nn_0 (by rcases hq with rfl | rfl <;> rfl) hN)
    · rw [show (B_X3_placeCommons_2 q x) = (true, ((x.1 + 1), (up (up (up x.2 (q + 21) x.1.toNatClampNeg (D_X11_roundUp (x.2 (q + 15) 11) (D_X9_align q x.2 x.1))) (q + 15) 12 ((x.2 (q + 15) 12) + (D_X9_size q (up x.2 (q + 21) x.1.toNatClampNeg (D_X11_roundUp (x.2 (q + 15) 11) (D_X9_align q x.2 x.1))) x.1))) (q + 15) 11 ((D_X11_roundUp (x.2 (q + 15) 11) (D_X9_align q x.2 x.1)) + (D_X9_size q (up (up x.2 (q + 21) x.1.toNatClampNeg (D_X11_roundUp (x.2 (q + 15) 11) (D_X9_align q x.2 x.1))) (q + 15) 12 ((x.2 (q + 15) 12) + (D_X9_size q (up x.2 (q + 21) x.1.toNatClampNeg (D_X11_roundUp (x.2 (q + 15) 11) (D_X9_align q x.2 x.1))) x.1))) x.1))))) from ((if_neg c0).trans ((if_neg c1).trans rfl))]
      try dsimp only
      exact (nn_f (by rcases hq with rfl | rfl <;> rfl) (nn_f (by rcases hq with rfl | rfl <;> rfl) (nn_0 (by rcases hq with rfl | rfl <;> rfl) hN)))
noncomputable def R_X3_placeCommons_92 (q : Nat) (s : Sg) : Sg := s
theorem r_X3_placeCommons_92 (hP : WOK b w H0) {q : Nat} (hq : q = 38 ∨ q = 60) {s : Sg} (hN : NN s) : Rx sc g_X3_placeCommons 2 ((92, [], [])) (wd b w wl H0 s, kn) none (wd b w wl H0 (R_X3_placeCommons_92 q s), kn) := by
  show Rx sc g_X3_placeCommons 2 (92, [], []) (wd b w wl H0 s, kn) none (wd b w wl H0 (R_X3_placeCommons_92 q s), kn)
  rw [(show (R_X3_placeCommons_92 q s) = s from rfl)]
  try dsimp only
  exact rx_rv rfl
theorem nr_X3_placeCommons_92 {q : Nat} (hq : q = 38 ∨ q = 60) {s : Sg} (hN : NN s) : NN ((R_X3_placeCommons_92 q s)) := by
  rw [show (R_X3_placeCommons_92 q s) = s from rfl]
  try dsimp only
  exact hN
noncomputable def D_X3_placeCommons (q : Nat) (s : Sg) : Sg := (R_X3_placeCommons_92 q ((itr (B_X3_placeCommons_2 q) BIG (0, s)).2))
theorem m_X3_placeCommons (hP : WOK b w H0) {q : Nat} (hq : q = 38 ∨ q = 60) {s : Sg} (hN : NN s) : Rx sc g_X3_placeCommons 2 ((0, [(0, .ref (b + (q + 15)))], [])) (wd b w wl H0 s, kn) none (wd b w wl H0 (D_X3_placeCommons q s), kn) := by
  show Rx sc g_X3_placeCommons 2 (0, [(0, .ref (b + (q + 15)))], []) (wd b w wl H0 s, kn) none (wd b w wl H0 (D_X3_placeCommons q s), kn)
  refine rx_k 2 (2, [(1, .int 0), (0, .ref (b + (q + 15)))], []) (fun _ _ => rfl) ?_
  refine rx_lo am_X3_placeCommons (lo := [(0, .ref (b + (q + 15))), (1, .int 0)]) (List.forall_mem_cons.mpr ⟨List.mem_of_getElem? (i := 1) rfl, (List.forall_mem_cons.mpr ⟨List.mem_of_getElem? (i := 0) rfl, (fun _ h => absurd h List.not_mem_nil)⟩)⟩) rfl ?_
  refine rx_loop (B := B_X3_placeCommons_2 q) (fr := (fr_X3_placeCommons_2 b w q)) (E := (fe_X3_placeCommons_2 b w q)) (hp := (fun z => (wd b w wl H0 z.2, kn))) (vr := fun z => z.1) (I := (fun z => NN z.2)) (fun z o1 h1 hI1 hv1 hc1 he1 => b_X3_placeCommons_2 hP hq z o1 h1 hI1 hv1 hc1 he1) (fun z hz => nb_X3_placeCommons_2 hq z hz) BIG (0, s) _ _ hN (by decide : (0 : Int) ≤ (0 : Int32).toInt) (le_enough (by decide : (0 : Int) ≤ (0 : Int32).toInt)) ?_
  rw [(show (D_X3_placeCommons q s) = (R_X3_placeCommons_92 q ((itr (B_X3_placeCommons_2 q) BIG (0, s)).2)) from rfl)]
  exact r_X3_placeCommons_92 hP hq (itr_inv (B := B_X3_placeCommons_2 q) (I := fun z => NN z.2) (fun z hz => nb_X3_placeCommons_2 hq z hz) BIG (0, s) hN)
theorem rc_X3_placeCommons (hP : WOK b w H0) {q : Nat} (hq : q = 38 ∨ q = 60) {s : Sg} (hN : NN s) : Rc sc 3 35 [.ref (b + (q + 15))] (wd b w wl H0 s, kn) none (wd b w wl H0 (D_X3_placeCommons q s), kn) := rx_mc (m_X3_placeCommons hP hq hN) rfl rfl (Nat.ble_eq_true_of_le (Nat.le_refl _)) (Nat.ble_eq_true_of_le (Nat.le_refl _))
theorem nn_X3_placeCommons {q : Nat} (hq : q = 38 ∨ q = 60) {s : Sg} (hN : NN s) : NN (D_X3_placeCommons q s) := by
  rw [show (D_X3_placeCommons q s) = (R_X3_placeCommons_92 q ((itr (B_X3_placeCommons_2 q) BIG (0, s)).2)) from rfl]
  try dsimp only
  exact (nr_X3_placeCommons_92 hq (itr_inv (B := B_X3_placeCommons_2 q) (I := fun z => NN z.2) (fun z hz => nb_X3_placeCommons_2 hq z hz) BIG (0, s) hN))
theorem fwb_X3_placeCommons_2 {q : Nat} {x : Int32 × Sg} {k j : Nat} (l15f11 : k ≠ q + 15 ∨ j ≠ 11) (l15f12 : k ≠ q + 15 ∨ j ≠ 12) (l21 : k ≠ q + 21) : (B_X3_placeCommons_2 q x).2.2 k j = x.2 k j := by
  by_cases c0 : 20 ≤ x.1
  · rw [show (B_X3_placeCommons_2 q x) = (false, (x.1, x.2)) from ((if_pos c0).trans rfl)]
    first | done | (dsimp only; done) | ((try dsimp only); exact rfl)
  · by_cases c1 : (D_X7_hasCommon q x.2 x.1) = 0
    · rw [show (B_X3_placeCommons_2 q x) = (true, ((x.1 + 1), (up x.2 (q + 21) x.1.toNatClampNeg (-1)))) from ((if_neg c0).trans ((if_pos c1).trans rfl))]
      first | done | (dsimp only; done) | ((try dsimp only); exact ((up_a l21).trans rfl))
    · rw [show (B_X3_placeCommons_2 q x) = (true, ((x.1 + 1), (up (up (up x.2 (q + 21) x.1.toNatClampNeg (D_X11_roundUp (x.2 (q + 15) 11) (D_X9_align q x.2 x.1))) (q + 15) 12 ((x.2 (q + 15) 12) + (D_X9_size q (up x.2 (q + 21) x.1.toNatClampNeg (D_X11_roundUp (x.2 (q + 15) 11) (D_X9_align q x.2 x.1))) x.1))) (q + 15) 11 ((D_X11_roundUp (x.2 (q + 15) 11) (D_X9_align q x.2 x.1)) + (D_X9_size q (up (up x.2 (q + 21) x.1.toNatClampNeg (D_X11_roundUp (x.2 (q + 15) 11) (D_X9_align q x.2 x.1))) (q + 15) 12 ((x.2 (q + 15) 12) + (D_X9_size q (up x.2 (q + 21) x.1.toNatClampNeg (D_X11_roundUp (x.2 (q + 15) 11) (D_X9_align q x.2 x.1))) x.1))) x.1))))) from ((if_neg c0).trans ((if_neg c1).trans rfl))]
      first | done | (dsimp only; done) | ((try dsimp only); exact ((up_f l15f11).trans ((up_f l15f12).trans ((up_a l21).trans rfl))))
theorem fwr_X3_placeCommons_92 {q : Nat} {s : Sg} {k j : Nat} (l15f11 : k ≠ q + 15 ∨ j ≠ 11) (l15f12 : k ≠ q + 15 ∨ j ≠ 12) (l21 : k ≠ q + 21) : (R_X3_placeCommons_92 q s) k j = s k j := by
  rw [show (R_X3_placeCommons_92 q s) = s from rfl]
  first | done | (dsimp only; done) | ((try dsimp only); exact rfl)
theorem fw_X3_placeCommons {q : Nat} {s : Sg} {k j : Nat} (l15f11 : k ≠ q + 15 ∨ j ≠ 11) (l15f12 : k ≠ q + 15 ∨ j ≠ 12) (l21 : k ≠ q + 21) : (D_X3_placeCommons q s) k j = s k j := by
  rw [show (D_X3_placeCommons q s) = (R_X3_placeCommons_92 q ((itr (B_X3_placeCommons_2 q) BIG (0, s)).2)) from rfl]
  first | done | (dsimp only; done) | ((try dsimp only); exact ((fwr_X3_placeCommons_92 l15f11 l15f12 l21).trans ((itr_inv (B := B_X3_placeCommons_2 q) (I := fun z => z.2 k j = s k j) (fun z hz => (fwb_X3_placeCommons_2 l15f11 l15f12 l21).trans hz) BIG (0, s) rfl).trans rfl)))
-- LinkHarbour$Settling.sectionOf
noncomputable def D_X9_sectionOf (q : Nat) (s : Sg) (a1 : Int32) : Int32 := (if (D_X11_isName a1) = 0 then (-1) else (s (q + 8) a1.toNatClampNeg))
theorem m_X9_sectionOf (hP : WOK b w H0) {q : Nat} (hq : q = 38 ∨ q = 60) {s : Sg} {a1 : Int32} : Rx sc g_X9_sectionOf 1 ((0, [(0, .ref (b + (q + 5))), (1, .int a1)], [])) (wd b w wl H0 s, kn) (some (.int (D_X9_sectionOf q s a1))) (wd b w wl H0 s, kn) := by
  show Rx sc g_X9_sectionOf 1 (0, [(0, .ref (b + (q + 5))), (1, .int a1)], []) (wd b w wl H0 s, kn) (some (.int (D_X9_sectionOf q s a1))) (wd b w wl H0 s, kn)
  refine rx_k 1 (1, [(0, .ref (b + (q + 5))), (1, .int a1)], [.int a1]) (fun _ _ => rfl) ?_
  refine rx_inv rfl rfl (rc_X11_isName) rfl rfl rfl rfl rfl rfl ?_
  by_cases c0 : (D_X11_isName a1) = 0
  · refine rx_ifT rfl (bt c0) ?_
    refine rx_k 1 (17, [(0, .ref (b + (q + 5))), (1, .int a1)], [.int (-1)]) (fun _ _ => rfl) ?_
    rw [(show (D_X9_sectionOf q s a1) = (-1) from ((if_pos c0).trans rfl))]
    try dsimp only
    exact rx_ri rfl
  · refine rx_ifF rfl (bf c0) rfl ?_
    refine rx_k 1 (8, [(0, .ref (b + (q + 5))), (1, .int a1)], [.ref (b + (q + 5))]) (fun _ _ => rfl) ?_
    refine rx_getf rfl rfl (wl_5 hP hq) rfl ?_
    refine rx_k 1 (12, [(0, .ref (b + (q + 5))), (1, .int a1)], [.int a1, .ref (b + (q + 8))]) (fun _ _ => rfl) ?_
    refine rx_ild rfl rfl (wl_8 hP hq) (ar_at (rg_isName c0)) ?_
    refine rx_k 1 (17, [(0, .ref (b + (q + 5))), (1, .int a1)], [.int (s (q + 8) a1.toNatClampNeg)]) (fun _ _ => rfl) ?_
    rw [(show (D_X9_sectionOf q s a1) = (s (q + 8) a1.toNatClampNeg) from ((if_neg c0).trans rfl))]
    try dsimp only
    exact rx_ri rfl
theorem rc_X9_sectionOf (hP : WOK b w H0) {q : Nat} (hq : q = 38 ∨ q = 60) {s : Sg} {a1 : Int32} : Rc sc 2 142 [.ref (b + (q + 5)), .int a1] (wd b w wl H0 s, kn) (some (.int (D_X9_sectionOf q s a1))) (wd b w wl H0 s, kn) := rx_mc (m_X9_sectionOf hP hq) rfl rfl (Nat.ble_eq_true_of_le (Nat.le_refl _)) (Nat.ble_eq_true_of_le (Nat.le_refl _))
-- LinkHarbour$Settling.placeOf
noncomputable def D_X9_placeOf (q : Nat) (s : Sg) (a1 : Int32) : Int32 := (if (D_X11_isName a1) = 0 then (-1) else (s (q + 9) a1.toNatClampNeg))
theorem m_X9_placeOf (hP : WOK b w H0) {q : Nat} (hq : q = 38 ∨ q = 60) {s : Sg} {a1 : Int32} : Rx sc g_X9_placeOf 1 ((0, [(0, .ref (b + (q + 5))), (1, .int a1)], [])) (wd b w wl H0 s, kn) (some (.int (D_X9_placeOf q s a1))) (wd b w wl H0 s, kn) := by
  show Rx sc g_X9_placeOf 1 (0, [(0, .ref (b + (q + 5))), (1, .int a1)], []) (wd b w wl H0 s, kn) (some (.int (D_X9_placeOf q s a1))) (wd b w wl H0 s, kn)
  refine rx_k 1 (1, [(0, .ref (b + (q + 5))), (1, .int a1)], [.int a1]) (fun _ _ => rfl) ?_
  refine rx_inv rfl rfl (rc_X11_isName) rfl rfl rfl rfl rfl rfl ?_
  by_cases c0 : (D_X11_isName a1) = 0
  · refine rx_ifT rfl (bt c0) ?_
    refine rx_k 1 (17, [(0, .ref (b + (q + 5))), (1, .int a1)], [.int (-1)]) (fun _ _ => rfl) ?_
    rw [(show (D_X9_placeOf q s a1) = (-1) from ((if_pos c0).trans rfl))]
    try dsimp only
    exact rx_ri rfl
  · refine rx_ifF rfl (bf c0) rfl ?_
    refine rx_k 1 (8, [(0, .ref (b + (q + 5))), (1, .int a1)], [.ref (b + (q + 5))]) (fun _ _ => rfl) ?_
    refine rx_getf rfl rfl (wl_5 hP hq) rfl ?_
    refine rx_k 1 (12, [(0, .ref (b + (q + 5))), (1, .int a1)], [.int a1, .ref (b + (q + 9))]) (fun _ _ => rfl) ?_
    refine rx_ild rfl rfl (wl_9 hP hq) (ar_at (rg_isName c0)) ?_
    refine rx_k 1 (17, [(0, .ref (b + (q + 5))), (1, .int a1)], [.int (s (q + 9) a1.toNatClampNeg)]) (fun _ _ => rfl) ?_
    rw [(show (D_X9_placeOf q s a1) = (s (q + 9) a1.toNatClampNeg) from ((if_neg c0).trans rfl))]
    try dsimp only
    exact rx_ri rfl
theorem rc_X9_placeOf (hP : WOK b w H0) {q : Nat} (hq : q = 38 ∨ q = 60) {s : Sg} {a1 : Int32} : Rc sc 2 143 [.ref (b + (q + 5)), .int a1] (wd b w wl H0 s, kn) (some (.int (D_X9_placeOf q s a1))) (wd b w wl H0 s, kn) := rx_mc (m_X9_placeOf hP hq) rfl rfl (Nat.ble_eq_true_of_le (Nat.le_refl _)) (Nat.ble_eq_true_of_le (Nat.le_refl _))
-- LinkHarbour$Layout.addressNames
def fr_X3_addressNames_2 (b w : Nat) (q : Nat) (x : Int32 × Sg) : EF := (2, [(0, .ref (b + (q + 15))), (1, .int x.1)], [])
def fe_X3_addressNames_2 (b w : Nat) (q : Nat) (x : Int32 × Sg) : EF := (69, [], [])
noncomputable def B_X3_addressNames_2 (q : Nat) (x : Int32 × Sg) : Bool × (Int32 × Sg) := (if 20 ≤ x.1 then (false, (x.1, x.2)) else (if (D_X7_hasSection q x.2 (D_X9_sectionOf q x.2 x.1)) = 0 then (true, ((x.1 + 1), x.2)) else (if (D_X11_isIn (D_X9_sectionOf q x.2 x.1) 24) = 0 then (true, ((x.1 + 1), x.2)) else (true, ((x.1 + 1), (up x.2 (q + 21) x.1.toNatClampNeg ((x.2 (q + 17) (D_X9_sectionOf q x.2 x.1).toNatClampNeg) + (D_X3_wordsAhead q x.2 (D_X9_sectionOf q x.2 x.1) (D_X9_placeOf q x.2 x.1)))))))))
theorem b_X3_addressNames_2 (hP : WOK b w H0) {q : Nat} (hq : q = 38 ∨ q = 60) (x : Int32 × Sg) (o : Option Value) (h' : EH) (hN : NN x.2) (hv : 0 ≤ (x.1).toInt) (hc : (B_X3_addressNames_2 q x).1 = true → (x.1).toInt < 2147483647 → (B_X3_addressNames_2 q x).2.1 = x.1 + 1 → Rx sc g_X3_addressNames 3 (fr_X3_addressNames_2 b w q (B_X3_addressNames_2 q x).2) (wd b w wl H0 (B_X3_addressNames_2 q x).2.2, kn) o h') (he : (B_X3_addressNames_2 q x).1 = false → Rx sc g_X3_addressNames 3 (fe_X3_addressNames_2 b w q (B_X3_addressNames_2 q x).2) (wd b w wl H0 (B_X3_addressNames_2 q x).2.2, kn) o h') : Rx sc g_X3_addressNames 3 (fr_X3_addressNames_2 b w q x) (wd b w wl H0 x.2, kn) o h' := by
  show Rx sc g_X3_addressNames 3 (2, [(0, .ref (b + (q + 15))), (1, .int x.1)], []) (wd b w wl H0 x.2, kn) o h'
  refine rx_k 2 (5, [(0, .ref (b + (q + 15))), (1, .int x.1)], [.int 20, .int x.1]) (fun _ _ => rfl) ?_
  by_cases c0 : 20 ≤ x.1
  · refine rx_icT rfl (bt c0) ?_
    rw [(show (B_X3_addressNames_2 q x) = (false, (x.1, x.2)) from ((if_pos c0).trans rfl))] at he
    dsimp only at he
    exact rx_lo am_X3_addressNames (lo := []) (fun _ h => absurd h List.not_mem_nil) rfl (he rfl)
  · refine rx_icF rfl (bf c0) rfl ?_
    refine rx_k 1 (9, [(0, .ref (b + (q + 15))), (1, .int x.1)], [.ref (b + (q + 15))]) (fun _ _ => rfl) ?_
    refine rx_getf rfl rfl (wl_15 hP hq) rfl ?_
    refine rx_k 1 (13, [(0, .ref (b + (q + 15))), (1, .int x.1)], [.int x.1, .ref (b + (q + 5))]) (fun _ _ => rfl) ?_
    refine rx_inv rfl rfl (rc_X9_sectionOf hP hq) rfl rfl rfl (q_recv (wl_5 hP hq)) rfl rfl ?_
    refine rx_k 2 (18, [(2, .int (D_X9_sectionOf q x.2 x.1)), (0, .ref (b + (q + 15))), (1, .int x.1)], [.ref (b + (q + 15))]) (fun _ _ => rfl) ?_
    refine rx_getf rfl rfl (wl_15 hP hq) rfl ?_
    refine rx_k 1 (22, [(2, .int (D_X9_sectionOf q x.2 x.1)), (0, .ref (b + (q + 15))), (1, .int x.1)], [.int (D_X9_sectionOf q x.2 x.1), .ref (b + (q + 12))]) (fun _ _ => rfl) ?_
    refine rx_inv rfl rfl (rc_X7_hasSection hP hq) rfl rfl rfl (q_recv (wl_12 hP hq)) rfl rfl ?_
    by_cases c1 : (D_X7_hasSection q x.2 (D_X9_sectionOf q x.2 x.1)) = 0
    · refine rx_ifT rfl (bt c1) ?_
      refine rx_k 2 (2, [(1, .int (x.1 + 1)), (2, .int (D_X9_sectionOf q x.2 x.1)), (0, .ref (b + (q + 15)))], []) (fun _ _ => rfl) ?_
      rw [(show (B_X3_addressNames_2 q x) = (true, ((x.1 + 1), x.2)) from ((if_neg c0).trans ((if_pos c1).trans rfl)))] at hc
      dsimp only at hc
      refine rx_lo am_X3_addressNames (lo := [(0, .ref (b + (q + 15))), (1, .int (x.1 + 1))]) (List.forall_mem_cons.mpr ⟨List.mem_of_getElem? (i := 2) rfl, (List.forall_mem_cons.mpr ⟨List.mem_of_getElem? (i := 0) rfl, (fun _ h => absurd h List.not_mem_nil)⟩)⟩) rfl (hc rfl (lt_nle c0) rfl)
    · refine rx_ifF rfl (bf c1) rfl ?_
      refine rx_k 2 (31, [(2, .int (D_X9_sectionOf q x.2 x.1)), (0, .ref (b + (q + 15))), (1, .int x.1)], [.int 24, .int (D_X9_sectionOf q x.2 x.1)]) (fun _ _ => rfl) ?_
      refine rx_inv rfl rfl (rc_X11_isIn) rfl rfl rfl rfl rfl rfl ?_
      by_cases c2 : (D_X11_isIn (D_X9_sectionOf q x.2 x.1) 24) = 0
      · refine rx_ifT rfl (bt c2) ?_
        refine rx_k 2 (2, [(1, .int (x.1 + 1)), (2, .int (D_X9_sectionOf q x.2 x.1)), (0, .ref (b + (q + 15)))], []) (fun _ _ => rfl) ?_
        rw [(show (B_X3_addressNames_2 q x) = (true, ((x.1 + 1), x.2)) from ((if_neg c0).trans ((if_neg c1).trans ((if_pos c2).trans rfl))))] at hc
        dsimp only at hc
        refine rx_lo am_X3_addressNames (lo := [(0, .ref (b + (q + 15))), (1, .int (x.1 + 1))]) (List.forall_mem_cons.mpr ⟨List.mem_of_getElem? (i := 2) rfl, (List.forall_mem_cons.mpr ⟨List.mem_of_getElem? (i := 0) rfl, (fun _ h => absurd h List.not_mem_nil)⟩)⟩) rfl (hc rfl (lt_nle c0) rfl)
      · refine rx_ifF rfl (bf c2) rfl ?_
        refine rx_k 1 (38, [(2, .int (D_X9_sectionOf q x.2 x.1)), (0, .ref (b + (q + 15))), (1, .int x.1)], [.ref (b + (q + 15))]) (fun _ _ => rfl) ?_
        refine rx_getf rfl rfl (wl_15 hP hq) rfl ?_
        refine rx_k 2 (43, [(2, .int (D_X9_sectionOf q x.2 x.1)), (0, .ref (b + (q + 15))), (1, .int x.1)], [.ref (b + (q + 15)), .int x.1, .ref (b + (q + 21))]) (fun _ _ => rfl) ?_
        refine rx_getf rfl rfl (wl_15 hP hq) rfl ?_
        refine rx_k 1 (47, [(2, .int (D_X9_sectionOf q x.2 x.1)), (0, .ref (b + (q + 15))), (1, .int x.1)], [.int (D_X9_sectionOf q x.2 x.1), .ref (b + (q + 17)), .int x.1, .ref (b + (q + 21))]) (fun _ _ => rfl) ?_
        refine rx_ild rfl rfl (wl_17 hP hq) (ar_at (rg_isIn c2 (m := 24) (n := 24) rfl)) ?_
        refine rx_k 3 (51, [(2, .int (D_X9_sectionOf q x.2 x.1)), (0, .ref (b + (q + 15))), (1, .int x.1)], [.ref (b + (q + 15)), .int (D_X9_sectionOf q x.2 x.1), .ref (b + (q + 15)), .int (x.2 (q + 17) (D_X9_sectionOf q x.2 x.1).toNatClampNeg), .int x.1, .ref (b + (q + 21))]) (fun _ _ => rfl) ?_
        refine rx_getf rfl rfl (wl_15 hP hq) rfl ?_
        refine rx_k 1 (55, [(2, .int (D_X9_sectionOf q x.2 x.1)), (0, .ref (b + (q + 15))), (1, .int x.1)], [.int x.1, .ref (b + (q + 5)), .int (D_X9_sectionOf q x.2 x.1), .ref (b + (q + 15)), .int (x.2 (q + 17) (D_X9_sectionOf q x.2 x.1).toNatClampNeg), .int x.1, .ref (b + (q + 21))]) (fun _ _ => rfl) ?_
        refine rx_inv rfl rfl (rc_X9_placeOf hP hq) rfl rfl rfl (q_recv (wl_5 hP hq)) rfl rfl ?_
        refine rx_inv rfl rfl (rc_X3_wordsAhead hP hq hN) rfl rfl rfl (q_recv (wl_15 hP hq)) rfl rfl ?_
        refine rx_k 1 (62, [(2, .int (D_X9_sectionOf q x.2 x.1)), (0, .ref (b + (q + 15))), (1, .int x.1)], [.int ((x.2 (q + 17) (D_X9_sectionOf q x.2 x.1).toNatClampNeg) + (D_X3_wordsAhead q x.2 (D_X9_sectionOf q x.2 x.1) (D_X9_placeOf q x.2 x.1))), .int x.1, .ref (b + (q + 21))]) (fun _ _ => rfl) ?_
        refine rx_ist rfl rfl (wl_21 hP hq) rfl (ar_at (rg_c hv c0 (m := 20) (n := 20) rfl)) (wz_21 hP hq (rg_c hv c0 (m := 20) (n := 20) rfl)) ?_
        refine rx_k 2 (2, [(1, .int (x.1 + 1)), (2, .int (D_X9_sectionOf q x.2 x.1)), (0, .ref (b + (q + 15)))], []) (fun _ _ => rfl) ?_
        rw [(show (B_X3_addressNames_2 q x) = (true, ((x.1 + 1), (up x.2 (q + 21) x.1.toNatClampNeg ((x.2 (q + 17) (D_X9_sectionOf q x.2 x.1).toNatClampNeg) + (D_X3_wordsAhead q x.2 (D_X9_sectionOf q x.2 x.1) (D_X9_placeOf q x.2 x.1)))))) from ((if_neg c0).trans ((if_neg c1).trans ((if_neg c2).trans rfl))))] at hc
        dsimp only at hc
        refine rx_lo am_X3_addressNames (lo := [(0, .ref (b + (q + 15))), (1, .int (x.1 + 1))]) (List.forall_mem_cons.mpr ⟨List.mem_of_getElem? (i := 2) rfl, (List.forall_mem_cons.mpr ⟨List.mem_of_getElem? (i := 0) rfl, (fun _ h => absurd h List.not_mem_nil)⟩)⟩) rfl (hc rfl (lt_nle c0) rfl)
theorem nb_X3_addressNames_2 {q : Nat} (hq : q = 38 ∨ q = 60) (x : Int32 × Sg) (hN : NN x.2) : NN ((B_X3_addressNames_2 q x).2.2) := by
  by_cases c0 : 20 ≤ x.1
  · rw [show (B_X3_addressNames_2 q x) = (false, (x.1, x.2)) from ((if_pos c0).trans rfl)]
    try dsimp only
    exact hN
  · by_cases c1 : (D_X7_hasSection q x.2 (D_X9_sectionOf q x.2 x.1)) = 0
    · rw [show (B_X3_addressNames_2 q x) = (true, ((x.1 + 1), x.2)) from ((if_neg c0).trans ((if_pos c1).trans rfl))]
      try dsimp only
      exact hN
    · by_cases c2 : (D_X11_isIn (D_X9_sectionOf q x.2 x.1) 24) = 0
      · rw [show (B_X3_addressNames_2 q x) = (true, ((x.1 + 1), x.2)) from ((if_neg c0).trans ((if_neg c1).trans ((if_pos c2).trans rfl)))]
        try dsimp only
        exact hN
      · rw [show (B_X3_addressNames_2 q x) = (true, ((x.1 + 1), (up x.2 (q + 21) x.1.toNatClampNeg ((x.2 (q + 17) (D_X9_sectionOf q x.2 x.1).toNatClampNeg) + (D_X3_wordsAhead q x.2 (D_X9_sectionOf q x.2 x.1) (D_X9_placeOf q x.2 x.1)))))) from ((if_neg c0).trans ((if_neg c1).trans ((if_neg c2).trans rfl)))]
        try dsimp only
        exact (nn_0 (by rcases hq with rfl | rfl <;> rfl) hN)
noncomputable def R_X3_addressNames_69 (q : Nat) (s : Sg) : Sg := s
theorem r_X3_addressNames_69 (hP : WOK b w H0) {q : Nat} (hq : q = 38 ∨ q = 60) {s : Sg} (hN : NN s) : Rx sc g_X3_addressNames 3 ((69, [], [])) (wd b w wl H0 s, kn) none (wd b w wl H0 (R_X3_addressNames_69 q s), kn) := by
  show Rx sc g_X3_addressNames 3 (69, [], []) (wd b w wl H0 s, kn) none (wd b w wl H0 (R_X3_addressNames_69 q s), kn)
  rw [(show (R_X3_addressNames_69 q s) = s from rfl)]
  try dsimp only
  exact rx_rv rfl
theorem nr_X3_addressNames_69 {q : Nat} (hq : q = 38 ∨ q = 60) {s : Sg} (hN : NN s) : NN ((R_X3_addressNames_69 q s)) := by
  rw [show (R_X3_addressNames_69 q s) = s from rfl]
  try dsimp only
  exact hN
noncomputable def D_X3_addressNames (q : Nat) (s : Sg) : Sg := (R_X3_addressNames_69 q ((itr (B_X3_addressNames_2 q) BIG (0, s)).2))
theorem m_X3_addressNames (hP : WOK b w H0) {q : Nat} (hq : q = 38 ∨ q = 60) {s : Sg} (hN : NN s) : Rx sc g_X3_addressNames 3 ((0, [(0, .ref (b + (q + 15)))], [])) (wd b w wl H0 s, kn) none (wd b w wl H0 (D_X3_addressNames q s), kn) := by
  show Rx sc g_X3_addressNames 3 (0, [(0, .ref (b + (q + 15)))], []) (wd b w wl H0 s, kn) none (wd b w wl H0 (D_X3_addressNames q s), kn)
  refine rx_k 2 (2, [(1, .int 0), (0, .ref (b + (q + 15)))], []) (fun _ _ => rfl) ?_
  refine rx_lo am_X3_addressNames (lo := [(0, .ref (b + (q + 15))), (1, .int 0)]) (List.forall_mem_cons.mpr ⟨List.mem_of_getElem? (i := 1) rfl, (List.forall_mem_cons.mpr ⟨List.mem_of_getElem? (i := 0) rfl, (fun _ h => absurd h List.not_mem_nil)⟩)⟩) rfl ?_
  refine rx_loop (B := B_X3_addressNames_2 q) (fr := (fr_X3_addressNames_2 b w q)) (E := (fe_X3_addressNames_2 b w q)) (hp := (fun z => (wd b w wl H0 z.2, kn))) (vr := fun z => z.1) (I := (fun z => NN z.2)) (fun z o1 h1 hI1 hv1 hc1 he1 => b_X3_addressNames_2 hP hq z o1 h1 hI1 hv1 hc1 he1) (fun z hz => nb_X3_addressNames_2 hq z hz) BIG (0, s) _ _ hN (by decide : (0 : Int) ≤ (0 : Int32).toInt) (le_enough (by decide : (0 : Int) ≤ (0 : Int32).toInt)) ?_
  rw [(show (D_X3_addressNames q s) = (R_X3_addressNames_69 q ((itr (B_X3_addressNames_2 q) BIG (0, s)).2)) from rfl)]
  exact r_X3_addressNames_69 hP hq (itr_inv (B := B_X3_addressNames_2 q) (I := fun z => NN z.2) (fun z hz => nb_X3_addressNames_2 hq z hz) BIG (0, s) hN)
theorem rc_X3_addressNames (hP : WOK b w H0) {q : Nat} (hq : q = 38 ∨ q = 60) {s : Sg} (hN : NN s) : Rc sc 4 36 [.ref (b + (q + 15))] (wd b w wl H0 s, kn) none (wd b w wl H0 (D_X3_addressNames q s), kn) := rx_mc (m_X3_addressNames hP hq hN) rfl rfl (Nat.ble_eq_true_of_le (Nat.le_refl _)) (Nat.ble_eq_true_of_le (Nat.le_refl _))
theorem nn_X3_addressNames {q : Nat} (hq : q = 38 ∨ q = 60) {s : Sg} (hN : NN s) : NN (D_X3_addressNames q s) := by
  rw [show (D_X3_addressNames q s) = (R_X3_addressNames_69 q ((itr (B_X3_addressNames_2 q) BIG (0, s)).2)) from rfl]
  try dsimp only
  exact (nr_X3_addressNames_69 hq (itr_inv (B := B_X3_addressNames_2 q) (I := fun z => NN z.2) (fun z hz => nb_X3_addressNames_2 hq z hz) BIG (0, s) hN))
theorem fwb_X3_addressNames_2 {q : Nat} {x : Int32 × Sg} {k j : Nat} (l21 : k ≠ q + 21) : (B_X3_addressNames_2 q x).2.2 k j = x.2 k j := by
  by_cases c0 : 20 ≤ x.1
  · rw [show (B_X3_addressNames_2 q x) = (false, (x.1, x.2)) from ((if_pos c0).trans rfl)]
    first | done | (dsimp only; done) | ((try dsimp only); exact rfl)
  · by_cases c1 : (D_X7_hasSection q x.2 (D_X9_sectionOf q x.2 x.1)) = 0
    · rw [show (B_X3_addressNames_2 q x) = (true, ((x.1 + 1), x.2)) from ((if_neg c0).trans ((if_pos c1).trans rfl))]
      first | done | (dsimp only; done) | ((try dsimp only); exact rfl)
    · by_cases c2 : (D_X11_isIn (D_X9_sectionOf q x.2 x.1) 24) = 0
      · rw [show (B_X3_addressNames_2 q x) = (true, ((x.1 + 1), x.2)) from ((if_neg c0).trans ((if_neg c1).trans ((if_pos c2).trans rfl)))]
        first | done | (dsimp only; done) | ((try dsimp only); exact rfl)
      · rw [show (B_X3_addressNames_2 q x) = (true, ((x.1 + 1), (up x.2 (q + 21) x.1.toNatClampNeg ((x.2 (q + 17) (D_X9_sectionOf q x.2 x.1).toNatClampNeg) + (D_X3_wordsAhead q x.2 (D_X9_sectionOf q x.2 x.1) (D_X9_placeOf q x.2 x.1)))))) from ((if_neg c0).trans ((if_neg c1).trans ((if_neg c2).trans rfl)))]
        first | done | (dsimp only; done) | ((try dsimp only); exact ((up_a l21).trans rfl))
theorem fwr_X3_addressNames_69 {q : Nat} {s : Sg} {k j : Nat} (l21 : k ≠ q + 21) : (R_X3_addressNames_69 q s) k j = s k j := by
  rw [show (R_X3_addressNames_69 q s) = s from rfl]
  first | done | (dsimp only; done) | ((try dsimp only); exact rfl)
theorem fw_X3_addressNames {q : Nat} {s : Sg} {k j : Nat} (l21 : k ≠ q + 21) : (D_X3_addressNames q s) k j = s k j := by
  rw [show (D_X3_addressNames q s) = (R_X3_addressNames_69 q ((itr (B_X3_addressNames_2 q) BIG (0, s)).2)) from rfl]
  first | done | (dsimp only; done) | ((try dsimp only); exact ((fwr_X3_addressNames_69 l21).trans ((itr_inv (B := B_X3_addressNames_2 q) (I := fun z => z.2 k j = s k j) (fun z hz => (fwb_X3_addressNames_2 l21).trans hz) BIG (0, s) rfl).trans rfl)))
-- LinkHarbour$SectionTable.kind
noncomputable def D_X8_kind (s : Sg) (a1 : Int32) (a2 : Int32) : Int32 := (if (D_X8_hasPiece s a1 a2) = 0 then 0 else (s 16 ((a1 * 8) + a2).toNatClampNeg))
theorem m_X8_kind (hP : WOK b w H0) {s : Sg} {a1 : Int32} {a2 : Int32} : Rx sc g_X8_kind 1 ((0, [(0, .ref (b + 11)), (1, .int a1), (2, .int a2)], [])) (wd b w wl H0 s, kn) (some (.int (D_X8_kind s a1 a2))) (wd b w wl H0 s, kn) := by
  show Rx sc g_X8_kind 1 (0, [(0, .ref (b + 11)), (1, .int a1), (2, .int a2)], []) (wd b w wl H0 s, kn) (some (.int (D_X8_kind s a1 a2))) (wd b w wl H0 s, kn)
  refine rx_k 3 (3, [(0, .ref (b + 11)), (1, .int a1), (2, .int a2)], [.int a2, .int a1, .ref (b + 11)]) (fun _ _ => rfl) ?_
  refine rx_inv rfl rfl (rc_X8_hasPiece hP) rfl rfl rfl (q_recv (wg_11 hP)) rfl rfl ?_
  by_cases c0 : (D_X8_hasPiece s a1 a2) = 0
  · refine rx_ifT rfl (bt c0) ?_
    refine rx_k 1 (24, [(0, .ref (b + 11)), (1, .int a1), (2, .int a2)], [.int 0]) (fun _ _ => rfl) ?_
    rw [(show (D_X8_kind s a1 a2) = 0 from ((if_pos c0).trans rfl))]
    try dsimp only
    exact rx_ri rfl
  · refine rx_ifF rfl (bf c0) rfl ?_
    refine rx_k 1 (10, [(0, .ref (b + 11)), (1, .int a1), (2, .int a2)], [.ref (b + 11)]) (fun _ _ => rfl) ?_
    refine rx_getf rfl rfl (wg_11 hP) rfl ?_
    refine rx_k 5 (19, [(0, .ref (b + 11)), (1, .int a1), (2, .int a2)], [.int ((a1 * 8) + a2), .ref (b + 16)]) (fun _ _ => rfl) ?_
    refine rx_ild rfl rfl (wg_16 hP) (ar_at (i_mul_add 8 8 rfl (rg_X8_hasPiece1 c0) (rg_X8_hasPiece2 c0) (by decide) (by decide))) ?_
    refine rx_k 1 (24, [(0, .ref (b + 11)), (1, .int a1), (2, .int a2)], [.int (s 16 ((a1 * 8) + a2).toNatClampNeg)]) (fun _ _ => rfl) ?_
    rw [(show (D_X8_kind s a1 a2) = (s 16 ((a1 * 8) + a2).toNatClampNeg) from ((if_neg c0).trans rfl))]
    try dsimp only
    exact rx_ri rfl
theorem rc_X8_kind (hP : WOK b w H0) {s : Sg} {a1 : Int32} {a2 : Int32} : Rc sc 2 129 [.ref (b + 11), .int a1, .int a2] (wd b w wl H0 s, kn) (some (.int (D_X8_kind s a1 a2))) (wd b w wl H0 s, kn) := rx_mc (m_X8_kind hP) rfl rfl (Nat.ble_eq_true_of_le (Nat.le_refl _)) (Nat.ble_eq_true_of_le (Nat.le_refl _))
-- LinkHarbour$SectionTable.name
noncomputable def D_X8_name (s : Sg) (a1 : Int32) (a2 : Int32) : Int32 := (if (D_X8_hasPiece s a1 a2) = 0 then (-1) else (s 17 ((a1 * 8) + a2).toNatClampNeg))
theorem m_X8_name (hP : WOK b w H0) {s : Sg} {a1 : Int32} {a2 : Int32} : Rx sc g_X8_name 1 ((0, [(0, .ref (b + 11)), (1, .int a1), (2, .int a2)], [])) (wd b w wl H0 s, kn) (some (.int (D_X8_name s a1 a2))) (wd b w wl H0 s, kn) := by
  show Rx sc g_X8_name 1 (0, [(0, .ref (b + 11)), (1, .int a1), (2, .int a2)], []) (wd b w wl H0 s, kn) (some (.int (D_X8_name s a1 a2))) (wd b w wl H0 s, kn)
  refine rx_k 3 (3, [(0, .ref (b + 11)), (1, .int a1), (2, .int a2)], [.int a2, .int a1, .ref (b + 11)]) (fun _ _ => rfl) ?_
  refine rx_inv rfl rfl (rc_X8_hasPiece hP) rfl rfl rfl (q_recv (wg_11 hP)) rfl rfl ?_
  by_cases c0 : (D_X8_hasPiece s a1 a2) = 0
  · refine rx_ifT rfl (bt c0) ?_
    refine rx_k 1 (24, [(0, .ref (b + 11)), (1, .int a1), (2, .int a2)], [.int (-1)]) (fun _ _ => rfl) ?_
    rw [(show (D_X8_name s a1 a2) = (-1) from ((if_pos c0).trans rfl))]
    try dsimp only
    exact rx_ri rfl
  · refine rx_ifF rfl (bf c0) rfl ?_
    refine rx_k 1 (10, [(0, .ref (b + 11)), (1, .int a1), (2, .int a2)], [.ref (b + 11)]) (fun _ _ => rfl) ?_
    refine rx_getf rfl rfl (wg_11 hP) rfl ?_
    refine rx_k 5 (19, [(0, .ref (b + 11)), (1, .int a1), (2, .int a2)], [.int ((a1 * 8) + a2), .ref (b + 17)]) (fun _ _ => rfl) ?_
    refine rx_ild rfl rfl (wg_17 hP) (ar_at (i_mul_add 8 8 rfl (rg_X8_hasPiece1 c0) (rg_X8_hasPiece2 c0) (by decide) (by decide))) ?_
    refine rx_k 1 (24, [(0, .ref (b + 11)), (1, .int a1), (2, .int a2)], [.int (s 17 ((a1 * 8) + a2).toNatClampNeg)]) (fun _ _ => rfl) ?_
    rw [(show (D_X8_name s a1 a2) = (s 17 ((a1 * 8) + a2).toNatClampNeg) from ((if_neg c0).trans rfl))]
    try dsimp only
    exact rx_ri rfl
theorem rc_X8_name (hP : WOK b w H0) {s : Sg} {a1 : Int32} {a2 : Int32} : Rc sc 2 132 [.ref (b + 11), .int a1, .int a2] (wd b w wl H0 s, kn) (some (.int (D_X8_name s a1 a2))) (wd b w wl H0 s, kn) := rx_mc (m_X8_name hP) rfl rfl (Nat.ble_eq_true_of_le (Nat.le_refl _)) (Nat.ble_eq_true_of_le (Nat.le_refl _))
-- java/lang/Math.abs
noncomputable def D_J9_abs_0f7a4 (a0 : Int32) : Int32 := (if 0 ≤ a0 then a0 else (-a0))
set_option maxRecDepth 100000 in
theorem m_J9_abs_0f7a4 {hh : EH} {a0 : Int32} : Rx sc g_J9_abs_0f7a4 0 ((0, [(0, .int a0)], [])) hh (some (.int (D_J9_abs_0f7a4 a0))) hh := by
  show Rx sc g_J9_abs_0f7a4 0 (0, [(0, .int a0)], []) hh (some (.int (D_J9_abs_0f7a4 a0))) hh
  refine rx_k 1 (1, [(0, .int a0)], [.int a0]) (fun _ _ => rfl) ?_
  by_cases c0 : 0 ≤ a0
  · refine rx_ifT rfl (bt c0) ?_
    refine rx_k 1 (10, [(0, .int a0)], [.int a0]) (fun _ _ => rfl) ?_
    rw [(show (D_J9_abs_0f7a4 a0) = a0 from ((if_pos c0).trans rfl))]
    try dsimp only
    exact rx_ri rfl
  · refine rx_ifF rfl (bf c0) rfl ?_
    refine rx_k 3 (10, [(0, .int a0)], [.int (-a0)]) (fun _ _ => rfl) ?_
    rw [(show (D_J9_abs_0f7a4 a0) = (-a0) from ((if_neg c0).trans rfl))]
    try dsimp only
    exact rx_ri rfl
theorem rc_J9_abs_0f7a4 {hh : EH} {a0 : Int32} : Rc sc 1 210 [.int a0] hh (some (.int (D_J9_abs_0f7a4 a0))) hh := rx_mc (m_J9_abs_0f7a4) rfl rfl (Nat.ble_eq_true_of_le (Nat.le_refl _)) (Nat.ble_eq_true_of_le (Nat.le_refl _))
-- LinkHarbour$Layout.lengthenIn
def fr_X3_lengthenIn_24 (b w : Nat) (q : Nat) (a1 : Int32) (a2 : Int32) (x : Int32 × Int32 × Int32 × Sg) : EF := (24, [(0, .ref (b + (q + 15))), (1, .int a1), (2, .int a2), (3, .int x.2.1), (4, .int x.2.2.1), (5, .int x.1)], [])
def fe_X3_lengthenIn_24 (b w : Nat) (q : Nat) (a1 : Int32) (a2 : Int32) (x : Int32 × Int32 × Int32 × Sg) : EF := (139, [(3, .int x.2.1)], [])
noncomputable def B_X3_lengthenIn_24 (q : Nat) (a1 : Int32) (a2 : Int32) (x : Int32 × Int32 × Int32 × Sg) : Bool × (Int32 × Int32 × Int32 × Sg) := (if 8 ≤ x.1 then (false, (x.1, x.2.1, x.2.2.1, x.2.2.2)) else (if (D_X8_kind x.2.2.2 a1 x.1) = 2 then (if (x.2.2.2 (q + 20) ((a1 * 8) + x.1).toNatClampNeg) = 2 then (if (D_J9_abs_0f7a4 ((x.2.2.1 + (x.2.2.2 (q + 20) ((a1 * 8) + x.1).toNatClampNeg)) - (D_X3_standsFor q x.2.2.2 (D_X8_name x.2.2.2 a1 x.1)))) ≤ a2 then (true, ((x.1 + 1), x.2.1, (x.2.2.1 + (x.2.2.2 (q + 20) ((a1 * 8) + x.1).toNatClampNeg)), x.2.2.2)) else (true, ((x.1 + 1), 1, (x.2.2.1 + (x.2.2.2 (q + 20) ((a1 * 8) + x.1).toNatClampNeg)), (up (up x.2.2.2 (q + 20) ((a1 * 8) + x.1).toNatClampNeg 5) (q + 19) a1.toNatClampNeg ((x.2.2.2 (q + 19) a1.toNatClampNeg) + 1))))) else (true, ((x.1 + 1), x.2.1, (x.2.2.1 + (x.2.2.2 (q + 20) ((a1 * 8) + x.1).toNatClampNeg)), x.2.2.2))) else (true, ((x.1 + 1), x.2.1, (x.2.2.1 + (x.2.2.2 (q + 20) ((a1 * 8) + x.1).toNatClampNeg)), x.2.2.2))))
theorem b_X3_lengthenIn_24 (hP : WOK b w H0) {q : Nat} (hq : q = 38 ∨ q = 60) {a1 : Int32} {a2 : Int32} (h1 : rg a1 24) (x : Int32 × Int32 × Int32 × Sg) (o : Option Value) (h' : EH) (hN : NN x.2.2.2) (hv : 0 ≤ (x.1).toInt) (hc : (B_X3_lengthenIn_24 q a1 a2 x).1 = true → (x.1).toInt < 2147483647 → (B_X3_lengthenIn_24 q a1 a2 x).2.1 = x.1 + 1 → Rx sc g_X3_lengthenIn 2 (fr_X3_lengthenIn_24 b w q a1 a2 (B_X3_lengthenIn_24 q a1 a2 x).2) (wd b w wl H0 (B_X3_lengthenIn_24 q a1 a2 x).2.2.2.2, kn) o h') (he : (B_X3_lengthenIn_24 q a1 a2 x).1 = false → Rx sc g_X3_lengthenIn 2 (fe_X3_lengthenIn_24 b w q a1 a2 (B_X3_lengthenIn_24 q a1 a2 x).2) (wd b w wl H0 (B_X3_lengthenIn_24 q a1 a2 x).2.2.2.2, kn) o h') : Rx sc g_X3_lengthenIn 2 (fr_X3_lengthenIn_24 b w q a1 a2 x) (wd b w wl H0 x.2.2.2, kn) o h' := by
  show Rx sc g_X3_lengthenIn 2 (24, [(0, .ref (b + (q + 15))), (1, .int a1), (2, .int a2), (3, .int x.2.1), (4, .int x.2.2.1), (5, .int x.1)], []) (wd b w wl H0 x.2.2.2, kn) o h'
  refine rx_k 2 (28, [(0, .ref (b + (q + 15))), (1, .int a1), (2, .int a2), (3, .int x.2.1), (4, .int x.2.2.1), (5, .int x.1)], [.int 8, .int x.1]) (fun _ _ => rfl) ?_
  by_cases c0 : 8 ≤ x.1
  · refine rx_icT rfl (bt c0) ?_
    rw [(show (B_X3_lengthenIn_24 q a1 a2 x) = (false, (x.1, x.2.1, x.2.2.1, x.2.2.2)) from ((if_pos c0).trans rfl))] at he
    dsimp only at he
    exact rx_lo am_X3_lengthenIn (lo := [(3, .int x.2.1)]) (List.forall_mem_cons.mpr ⟨List.mem_of_getElem? (i := 3) rfl, (fun _ h => absurd h List.not_mem_nil)⟩) rfl (he rfl)
  · refine rx_icF rfl (bf c0) rfl ?_
    refine rx_k 8 (43, [(6, .int ((a1 * 8) + x.1)), (0, .ref (b + (q + 15))), (1, .int a1), (2, .int a2), (3, .int x.2.1), (4, .int x.2.2.1), (5, .int x.1)], [.ref (b + (q + 15)), .int x.2.2.1]) (fun _ _ => rfl) ?_
    refine rx_getf rfl rfl (wl_15 hP hq) rfl ?_
    refine rx_k 1 (48, [(6, .int ((a1 * 8) + x.1)), (0, .ref (b + (q + 15))), (1, .int a1), (2, .int a2), (3, .int x.2.1), (4, .int x.2.2.1), (5, .int x.1)], [.int ((a1 * 8) + x.1), .ref (b + (q + 20)), .int x.2.2.1]) (fun _ _ => rfl) ?_
    refine rx_ild rfl rfl (wl_20 hP hq) (ar_at (i_mul_add 8 8 rfl h1 (rg_c hv c0 (m := 8) (n := 8) rfl) (by decide) (by decide))) ?_
    refine rx_k 3 (53, [(4, .int (x.2.2.1 + (x.2.2.2 (q + 20) ((a1 * 8) + x.1).toNatClampNeg))), (6, .int ((a1 * 8) + x.1)), (0, .ref (b + (q + 15))), (1, .int a1), (2, .int a2), (3, .int x.2.1), (5, .int x.1)], [.ref (b + (q + 15))]) (fun _ _ => rfl) ?_
    refine rx_getf rfl rfl (wl_15 hP hq) rfl ?_
    refine rx_k 2 (59, [(4, .int (x.2.2.1 + (x.2.2.2 (q + 20) ((a1 * 8) + x.1).toNatClampNeg))), (6, .int ((a1 * 8) + x.1)), (0, .ref (b + (q + 15))), (1, .int a1), (2, .int a2), (3, .int x.2.1), (5, .int x.1)], [.int x.1, .int a1, .ref (b + 11)]) (fun _ _ => rfl) ?_
    refine rx_inv rfl rfl (rc_X8_kind hP) rfl rfl rfl (q_recv (wg_11 hP)) rfl rfl ?_
    refine rx_k 1 (63, [(4, .int (x.2.2.1 + (x.2.2.2 (q + 20) ((a1 * 8) + x.1).toNatClampNeg))), (6, .int ((a1 * 8) + x.1)), (0, .ref (b + (q + 15))), (1, .int a1), (2, .int a2), (3, .int x.2.1), (5, .int x.1)], [.int 2, .int (D_X8_kind x.2.2.2 a1 x.1)]) (fun _ _ => rfl) ?_
    by_cases c1 : (D_X8_kind x.2.2.2 a1 x.1) = 2
    · refine rx_icF rfl (nf c1) rfl ?_
      refine rx_k 1 (67, [(4, .int (x.2.2.1 + (x.2.2.2 (q + 20) ((a1 * 8) + x.1).toNatClampNeg))), (6, .int ((a1 * 8) + x.1)), (0, .ref (b + (q + 15))), (1, .int a1), (2, .int a2), (3, .int x.2.1), (5, .int x.1)], [.ref (b + (q + 15))]) (fun _ _ => rfl) ?_
      refine rx_getf rfl rfl (wl_15 hP hq) rfl ?_
      refine rx_k 1 (72, [(4, .int (x.2.2.1 + (x.2.2.2 (q + 20) ((a1 * 8) + x.1).toNatClampNeg))), (6, .int ((a1 * 8) + x.1)), (0, .ref (b + (q + 15))), (1, .int a1), (2, .int a2), (3, .int x.2.1), (5, .int x.1)], [.int ((a1 * 8) + x.1), .ref (b + (q + 20))]) (fun _ _ => rfl) ?_
      refine rx_ild rfl rfl (wl_20 hP hq) (ar_at (i_mul_add 8 8 rfl h1 (rg_c hv c0 (m := 8) (n := 8) rfl) (by decide) (by decide))) ?_
      refine rx_k 1 (74, [(4, .int (x.2.2.1 + (x.2.2.2 (q + 20) ((a1 * 8) + x.1).toNatClampNeg))), (6, .int ((a1 * 8) + x.1)), (0, .ref (b + (q + 15))), (1, .int a1), (2, .int a2), (3, .int x.2.1), (5, .int x.1)], [.int 2, .int (x.2.2.2 (q + 20) ((a1 * 8) + x.1).toNatClampNeg)]) (fun _ _ => rfl) ?_
      by_cases c2 : (x.2.2.2 (q + 20) ((a1 * 8) + x.1).toNatClampNeg) = 2
      · refine rx_icF rfl (nf c2) rfl ?_
        refine rx_k 4 (86, [(7, .int 1), (4, .int (x.2.2.1 + (x.2.2.2 (q + 20) ((a1 * 8) + x.1).toNatClampNeg))), (6, .int ((a1 * 8) + x.1)), (0, .ref (b + (q + 15))), (1, .int a1), (2, .int a2), (3, .int x.2.1), (5, .int x.1)], [.int 1]) (fun _ _ => rfl) ?_
        refine rx_ifF rfl (by decide) rfl ?_
        refine rx_k 3 (93, [(7, .int 1), (4, .int (x.2.2.1 + (x.2.2.2 (q + 20) ((a1 * 8) + x.1).toNatClampNeg))), (6, .int ((a1 * 8) + x.1)), (0, .ref (b + (q + 15))), (1, .int a1), (2, .int a2), (3, .int x.2.1), (5, .int x.1)], [.ref (b + (q + 15)), .ref (b + (q + 15)), .int (x.2.2.1 + (x.2.2.2 (q + 20) ((a1 * 8) + x.1).toNatClampNeg))]) (fun _ _ => rfl) ?_
        refine rx_getf rfl rfl (wl_15 hP hq) rfl ?_
        refine rx_k 2 (99, [(7, .int 1), (4, .int (x.2.2.1 + (x.2.2.2 (q + 20) ((a1 * 8) + x.1).toNatClampNeg))), (6, .int ((a1 * 8) + x.1)), (0, .ref (b + (q + 15))), (1, .int a1), (2, .int a2), (3, .int x.2.1), (5, .int x.1)], [.int x.1, .int a1, .ref (b + 11), .ref (b + (q + 15)), .int (x.2.2.1 + (x.2.2.2 (q + 20) ((a1 * 8) + x.1).toNatClampNeg))]) (fun _ _ => rfl) ?_
        refine rx_inv rfl rfl (rc_X8_name hP) rfl rfl rfl (q_recv (wg_11 hP)) rfl rfl ?_
        refine rx_inv rfl rfl (rc_X3_standsFor hP hq) rfl rfl rfl (q_recv (wl_15 hP hq)) rfl rfl ?_
        refine rx_k 1 (106, [(7, .int 1), (4, .int (x.2.2.1 + (x.2.2.2 (q + 20) ((a1 * 8) + x.1).toNatClampNeg))), (6, .int ((a1 * 8) + x.1)), (0, .ref (b + (q + 15))), (1, .int a1), (2, .int a2), (3, .int x.2.1), (5, .int x.1)], [.int ((x.2.2.1 + (x.2.2.2 (q + 20) ((a1 * 8) + x.1).toNatClampNeg)) - (D_X3_standsFor q x.2.2.2 (D_X8_name x.2.2.2 a1 x.1)))]) (fun _ _ => rfl) ?_
        refine rx_inv rfl rfl (rc_J9_abs_0f7a4) rfl rfl rfl rfl rfl rfl ?_
        refine rx_k 1 (110, [(7, .int 1), (4, .int (x.2.2.1 + (x.2.2.2 (q + 20) ((a1 * 8) + x.1).toNatClampNeg))), (6, .int ((a1 * 8) + x.1)), (0, .ref (b + (q + 15))), (1, .int a1), (2, .int a2), (3, .int x.2.1), (5, .int x.1)], [.int a2, .int (D_J9_abs_0f7a4 ((x.2.2.1 + (x.2.2.2 (q + 20) ((a1 * 8) + x.1).toNatClampNeg)) - (D_X3_standsFor q x.2.2.2 (D_X8_name x.2.2.2 a1 x.1))))]) (fun _ _ => rfl) ?_
        by_cases c3 : (D_J9_abs_0f7a4 ((x.2.2.1 + (x.2.2.2 (q + 20) ((a1 * 8) + x.1).toNatClampNeg)) - (D_X3_standsFor q x.2.2.2 (D_X8_name x.2.2.2 a1 x.1)))) ≤ a2
        · refine rx_icT rfl (bt c3) ?_
          refine rx_k 2 (24, [(5, .int (x.1 + 1)), (7, .int 1), (4, .int (x.2.2.1 + (x.2.2.2 (q + 20) ((a1 * 8) + x.1).toNatClampNeg))), (6, .int ((a1 * 8) + x.1)), (0, .ref (b + (q + 15))), (1, .int a1), (2, .int a2), (3, .int x.2.1)], []) (fun _ _ => rfl) ?_
          rw [(show (B_X3_lengthenIn_24 q a1 a2 x) = (true, ((x.1 + 1), x.2.1, (x.2.2.1 + (x.2.2.2 (q + 20) ((a1 * 8) + x.1).toNatClampNeg)), x.2.2.2)) from ((if_neg c0).trans ((if_pos c1).trans ((if_pos c2).trans ((if_pos c3).trans rfl)))))] at hc
          dsimp only at hc
          refine rx_lo am_X3_lengthenIn (lo := [(0, .ref (b + (q + 15))), (1, .int a1), (2, .int a2), (3, .int x.2.1), (4, .int (x.2.2.1 + (x.2.2.2 (q + 20) ((a1 * 8) + x.1).toNatClampNeg))), (5, .int (x.1 + 1))]) (List.forall_mem_cons.mpr ⟨List.mem_of_getElem? (i := 4) rfl, (List.forall_mem_cons.mpr ⟨List.mem_of_getElem? (i := 5) rfl, (List.forall_mem_cons.mpr ⟨List.mem_of_getElem? (i := 6) rfl, (List.forall_mem_cons.mpr ⟨List.mem_of_getElem? (i := 7) rfl, (List.forall_mem_cons.mpr ⟨List.mem_of_getElem? (i := 2) rfl, (List.forall_mem_cons.mpr ⟨List.mem_of_getElem? (i := 0) rfl, (fun _ h => absurd h List.not_mem_nil)⟩)⟩)⟩)⟩)⟩)⟩) rfl (hc rfl (lt_nle c0) rfl)
        · refine rx_icF rfl (bf c3) rfl ?_
          refine rx_k 1 (114, [(7, .int 1), (4, .int (x.2.2.1 + (x.2.2.2 (q + 20) ((a1 * 8) + x.1).toNatClampNeg))), (6, .int ((a1 * 8) + x.1)), (0, .ref (b + (q + 15))), (1, .int a1), (2, .int a2), (3, .int x.2.1), (5, .int x.1)], [.ref (b + (q + 15))]) (fun _ _ => rfl) ?_
          refine rx_getf rfl rfl (wl_15 hP hq) rfl ?_
          refine rx_k 2 (120, [(7, .int 1), (4, .int (x.2.2.1 + (x.2.2.2 (q + 20) ((a1 * 8) + x.1).toNatClampNeg))), (6, .int ((a1 * 8) + x.1)), (0, .ref (b + (q + 15))), (1, .int a1), (2, .int a2), (3, .int x.2.1), (5, .int x.1)], [.int 5, .int ((a1 * 8) + x.1), .ref (b + (q + 20))]) (fun _ _ => rfl) ?_
          refine rx_ist rfl rfl (wl_20 hP hq) rfl (ar_at (i_mul_add 8 8 rfl h1 (rg_c hv c0 (m := 8) (n := 8) rfl) (by decide) (by decide))) (wz_20 hP hq (i_mul_add 8 8 rfl h1 (rg_c hv c0 (m := 8) (n := 8) rfl) (by decide) (by decide))) ?_
          refine rx_k 1 (122, [(7, .int 1), (4, .int (x.2.2.1 + (x.2.2.2 (q + 20) ((a1 * 8) + x.1).toNatClampNeg))), (6, .int ((a1 * 8) + x.1)), (0, .ref (b + (q + 15))), (1, .int a1), (2, .int a2), (3, .int x.2.1), (5, .int x.1)], [.ref (b + (q + 15))]) (fun _ _ => rfl) ?_
          refine rx_getf rfl rfl (wl_15 hP hq) rfl ?_
          refine rx_k 2 (127, [(7, .int 1), (4, .int (x.2.2.1 + (x.2.2.2 (q + 20) ((a1 * 8) + x.1).toNatClampNeg))), (6, .int ((a1 * 8) + x.1)), (0, .ref (b + (q + 15))), (1, .int a1), (2, .int a2), (3, .int x.2.1), (5, .int x.1)], [.int a1, .ref (b + (q + 19)), .int a1, .ref (b + (q + 19))]) (fun _ _ => rfl) ?_
          refine rx_ild (x := (x.2.2.2 (q + 19) a1.toNatClampNeg)) rfl rfl (wl_19 hP hq) ((ar_at h1).trans (congrArg (fun z => some (Value.int z)) (rd_nk (by omega)))) ?_
          refine rx_k 2 (130, [(7, .int 1), (4, .int (x.2.2.1 + (x.2.2.2 (q + 20) ((a1 * 8) + x.1).toNatClampNeg))), (6, .int ((a1 * 8) + x.1)), (0, .ref (b + (q + 15))), (1, .int a1), (2, .int a2), (3, .int x.2.1), (5, .int x.1)], [.int ((x.2.2.2 (q + 19) a1.toNatClampNeg) + 1), .int a1, .ref (b + (q + 19))]) (fun _ _ => rfl) ?_
          refine rx_ist rfl rfl (wl_19 hP hq) rfl (ar_at h1) (wz_19 hP hq h1) ?_
          refine rx_k 4 (24, [(5, .int (x.1 + 1)), (3, .int 1), (7, .int 1), (4, .int (x.2.2.1 + (x.2.2.2 (q + 20) ((a1 * 8) + x.1).toNatClampNeg))), (6, .int ((a1 * 8) + x.1)), (0, .ref (b + (q + 15))), (1, .int a1), (2, .int a2)], []) (fun _ _ => rfl) ?_
          rw [(show (B_X3_lengthenIn_24 q a1 a2 x) = (true, ((x.1 + 1), 1, (x.2.2.1 + (x.2.2.2 (q + 20) ((a1 * 8) + x.1).toNatClampNeg)), (up (up x.2.2.2 (q + 20) ((a1 * 8) + x.1).toNatClampNeg 5) (q + 19) a1.toNatClampNeg ((x.2.2.2 (q + 19) a1.toNatClampNeg) + 1)))) from ((if_neg c0).trans ((if_pos c1).trans ((if_pos c2).trans ((if_neg c3).trans rfl)))))] at hc
          dsimp only at hc
          refine rx_lo am_X3_lengthenIn (lo := [(0, .ref (b + (q + 15))), (1, .int a1), (2, .int a2), (3, .int 1), (4, .int (x.2.2.1 + (x.2.2.2 (q + 20) ((a1 * 8) + x.1).toNatClampNeg))), (5, .int (x.1 + 1))]) (List.forall_mem_cons.mpr ⟨List.mem_of_getElem? (i := 5) rfl, (List.forall_mem_cons.mpr ⟨List.mem_of_getElem? (i := 6) rfl, (List.forall_mem_cons.mpr ⟨List.mem_of_getElem? (i := 7) rfl, (List.forall_mem_cons.mpr ⟨List.mem_of_getElem? (i := 1) rfl, (List.forall_mem_cons.mpr ⟨List.mem_of_getElem? (i := 3) rfl, (List.forall_mem_cons.mpr ⟨List.mem_of_getElem? (i := 0) rfl, (fun _ h => absurd h List.not_mem_nil)⟩)⟩)⟩)⟩)⟩)⟩) rfl (hc rfl (lt_nle c0) rfl)
      · refine rx_icT rfl (nt c2) ?_
        refine rx_k 3 (86, [(7, .int 0), (4, .int (x.2.2.1 + (x.2.2.2 (q + 20) ((a1 * 8) + x.1).toNatClampNeg))), (6, .int ((a1 * 8) + x.1)), (0, .ref (b + (q + 15))), (1, .int a1), (2, .int a2), (3, .int x.2.1), (5, .int x.1)], [.int 0]) (fun _ _ => rfl) ?_
        refine rx_ifT rfl (by decide) ?_
        refine rx_k 2 (24, [(5, .int (x.1 + 1)), (7, .int 0), (4, .int (x.2.2.1 + (x.2.2.2 (q + 20) ((a1 * 8) + x.1).toNatClampNeg))), (6, .int ((a1 * 8) + x.1)), (0, .ref (b + (q + 15))), (1, .int a1), (2, .int a2), (3, .int x.2.1)], []) (fun _ _ => rfl) ?_
        rw [(show (B_X3_lengthenIn_24 q a1 a2 x) = (true, ((x.1 + 1), x.2.1, (x.2.2.1 + (x.2.2.2 (q + 20) ((a1 * 8) + x.1).toNatClampNeg)), x.2.2.2)) from ((if_neg c0).trans ((if_pos c1).trans ((if_neg c2).trans rfl))))] at hc
        dsimp only at hc
        refine rx_lo am_X3_lengthenIn (lo := [(0, .ref (b + (q + 15))), (1, .int a1), (2, .int a2), (3, .int x.2.1), (4, .int (x.2.2.1 + (x.2.2.2 (q + 20) ((a1 * 8) + x.1).toNatClampNeg))), (5, .int (x.1 + 1))]) (List.forall_mem_cons.mpr ⟨List.mem_of_getElem? (i := 4) rfl, (List.forall_mem_cons.mpr ⟨List.mem_of_getElem? (i := 5) rfl, (List.forall_mem_cons.mpr ⟨List.mem_of_getElem? (i := 6) rfl, (List.forall_mem_cons.mpr ⟨List.mem_of_getElem? (i := 7) rfl, (List.forall_mem_cons.mpr ⟨List.mem_of_getElem? (i := 2) rfl, (List.forall_mem_cons.mpr ⟨List.mem_of_getElem? (i := 0) rfl, (fun _ h => absurd h List.not_mem_nil)⟩)⟩)⟩)⟩)⟩)⟩) rfl (hc rfl (lt_nle c0) rfl)
    · refine rx_icT rfl (nt c1) ?_
      refine rx_k 3 (86, [(7, .int 0), (4, .int (x.2.2.1 + (x.2.2.2 (q + 20) ((a1 * 8) + x.1).toNatClampNeg))), (6, .int ((a1 * 8) + x.1)), (0, .ref (b + (q + 15))), (1, .int a1), (2, .int a2), (3, .int x.2.1), (5, .int x.1)], [.int 0]) (fun _ _ => rfl) ?_
      refine rx_ifT rfl (by decide) ?_
      refine rx_k 2 (24, [(5, .int (x.1 + 1)), (7, .int 0), (4, .int (x.2.2.1 + (x.2.2.2 (q + 20) ((a1 * 8) + x.1).toNatClampNeg))), (6, .int ((a1 * 8) + x.1)), (0, .ref (b + (q + 15))), (1, .int a1), (2, .int a2), (3, .int x.2.1)], []) (fun _ _ => rfl) ?_
      rw [(show (B_X3_lengthenIn_24 q a1 a2 x) = (true, ((x.1 + 1), x.2.1, (x.2.2.1 + (x.2.2.2 (q + 20) ((a1 * 8) + x.1).toNatClampNeg)), x.2.2.2)) from ((if_neg c0).trans ((if_neg c1).trans rfl)))] at hc
      dsimp only at hc
      refine rx_lo am_X3_lengthenIn (lo := [(0, .ref (b + (q + 15))), (1, .int a1), (2, .int a2), (3, .int x.2.1), (4, .int (x.2.2.1 + (x.2.2.2 (q + 20) ((a1 * 8) + x.1).toNatClampNeg))), (5, .int (x.1 + 1))]) (List.forall_mem_cons.mpr ⟨List.mem_of_getElem? (i := 4) rfl, (List.forall_mem_cons.mpr ⟨List.mem_of_getElem? (i := 5) rfl, (List.forall_mem_cons.mpr ⟨List.mem_of_getElem? (i := 6) rfl, (List.forall_mem_cons.mpr ⟨List.mem_of_getElem? (i := 7) rfl, (List.forall_mem_cons.mpr ⟨List.mem_of_getElem? (i := 2) rfl, (List.forall_mem_cons.mpr ⟨List.mem_of_getElem? (i := 0) rfl, (fun _ h => absurd h List.not_mem_nil)⟩)⟩)⟩)⟩)⟩)⟩) rfl (hc rfl (lt_nle c0) rfl)
theorem nb_X3_lengthenIn_24 {q : Nat} (hq : q = 38 ∨ q = 60) {a1 : Int32} {a2 : Int32} (x : Int32 × Int32 × Int32 × Sg) (hN : NN x.2.2.2) : NN ((B_X3_lengthenIn_24 q a1 a2 x).2.2.2.2) := by
  by_cases c0 : 8 ≤ x.1
  · rw [show (B_X3_lengthenIn_24 q a1 a2 x) = (false, (x.1, x.2.1, x.2.2.1, x.2.2.2)) from ((if_pos c0).trans rfl)]
    try dsimp only
    exact hN
  · by_cases c1 : (D_X8_kind x.2.2.2 a1 x.1) = 2
    · by_cases c2 : (x.2.2.2 (q + 20) ((a1 * 8) + x.1).toNatClampNeg) = 2
      · by_cases c3 : (D_J9_abs_0f7a4 ((x.2.2.1 + (x.2.2.2 (q + 20) ((a1 * 8) + x.1).toNatClampNeg)) - (D_X3_standsFor q x.2.2.2 (D_X8_name x.2.2.2 a1 x.1)))) ≤ a2
        · rw [show (B_X3_lengthenIn_24 q a1 a2 x) = (true, ((x.1 + 1), x.2.1, (x.2.2.1 + (x.2.2.2 (q + 20) ((a1 * 8) + x.1).toNatClampNeg)), x.2.2.2)) from ((if_neg c0).trans ((if_pos c1).trans ((if_pos c2).trans ((if_pos c3).trans rfl))))]
          try dsimp only
          exact hN
        · rw [show (B_X3_lengthenIn_24 q a1 a2 x) = (true, ((x.1 + 1), 1, (x.2.2.1 + (x.2.2.2 (q + 20) ((a1 * 8) + x.1).toNatClampNeg)), (up (up x.2.2.2 (q + 20) ((a1 * 8) + x.1).toNatClampNeg 5) (q + 19) a1.toNatClampNeg ((x.2.2.2 (q + 19) a1.toNatClampNeg) + 1)))) from ((if_neg c0).trans ((if_pos c1).trans ((if_pos c2).trans ((if_neg c3).trans rfl))))]
          try dsimp only
          exact (nn_0 (by rcases hq with rfl | rfl <;> rfl) (nn_0 (by rcases hq with rfl | rfl <;> rfl) hN))
      · rw [show (B_X3_lengthenIn_24 q a1 a2 x) = (true, ((x.1 + 1), x.2.1, (x.2.2.1 + (x.2.2.2 (q + 20) ((a1 * 8) + x.1).toNatClampNeg)), x.2.2.2)) from ((if_neg c0).trans ((if_pos c1).trans ((if_neg c2).trans rfl)))]
        try dsimp only
        exact hN
    · rw [show (B_X3_lengthenIn_24 q a1 a2 x) = (true, ((x.1 + 1), x.2.1, (x.2.2.1 + (x.2.2.2 (q + 20) ((a1 * 8) + x.1).toNatClampNeg)), x.2.2.2)) from ((if_neg c0).trans ((if_neg c1).trans rfl))]
      try dsimp only
      exact hN
noncomputable def R_X3_lengthenIn_139 (q : Nat) (s : Sg) (a3 : Int32) : Int32 × Sg := (a3, s)
theorem r_X3_lengthenIn_139 (hP : WOK b w H0) {q : Nat} (hq : q = 38 ∨ q = 60) {s : Sg} {a3 : Int32} (hN : NN s) : Rx sc g_X3_lengthenIn 2 ((139, [(3, .int a3)], [])) (wd b w wl H0 s, kn) (some (.int (R_X3_lengthenIn_139 q s a3).1)) (wd b w wl H0 (R_X3_lengthenIn_139 q s a3).2, kn) := by
  show Rx sc g_X3_lengthenIn 2 (139, [(3, .int a3)], []) (wd b w wl H0 s, kn) (some (.int (R_X3_lengthenIn_139 q s a3).1)) (wd b w wl H0 (R_X3_lengthenIn_139 q s a3).2, kn)
  refine rx_k 1 (140, [(3, .int a3)], [.int a3]) (fun _ _ => rfl) ?_
  rw [(show (R_X3_lengthenIn_139 q s a3) = (a3, s) from rfl)]
  try dsimp only
  exact rx_ri rfl
theorem nr_X3_lengthenIn_139 {q : Nat} (hq : q = 38 ∨ q = 60) {s : Sg} {a3 : Int32} (hN : NN s) : NN ((R_X3_lengthenIn_139 q s a3).2) := by
  rw [show (R_X3_lengthenIn_139 q s a3) = (a3, s) from rfl]
  try dsimp only
  exact hN
noncomputable def D_X3_lengthenIn (q : Nat) (s : Sg) (a1 : Int32) (a2 : Int32) : Int32 × Sg := (if (D_X11_isIn a1 24) = 0 then (0, s) else (R_X3_lengthenIn_139 q ((itr (B_X3_lengthenIn_24 q a1 a2) BIG (0, 0, (s (q + 17) a1.toNatClampNeg), s)).2.2.2) ((itr (B_X3_lengthenIn_24 q a1 a2) BIG (0, 0, (s (q + 17) a1.toNatClampNeg), s)).2.1)))
theorem m_X3_lengthenIn (hP : WOK b w H0) {q : Nat} (hq : q = 38 ∨ q = 60) {s : Sg} {a1 : Int32} {a2 : Int32} (hN : NN s) : Rx sc g_X3_lengthenIn 2 ((0, [(0, .ref (b + (q + 15))), (1, .int a1), (2, .int a2)], [])) (wd b w wl H0 s, kn) (some (.int (D_X3_lengthenIn q s a1 a2).1)) (wd b w wl H0 (D_X3_lengthenIn q s a1 a2).2, kn) := by
  show Rx sc g_X3_lengthenIn 2 (0, [(0, .ref (b + (q + 15))), (1, .int a1), (2, .int a2)], []) (wd b w wl H0 s, kn) (some (.int (D_X3_lengthenIn q s a1 a2).1)) (wd b w wl H0 (D_X3_lengthenIn q s a1 a2).2, kn)
  refine rx_k 2 (3, [(0, .ref (b + (q + 15))), (1, .int a1), (2, .int a2)], [.int 24, .int a1]) (fun _ _ => rfl) ?_
  refine rx_inv rfl rfl (rc_X11_isIn) rfl rfl rfl rfl rfl rfl ?_
  by_cases c0 : (D_X11_isIn a1 24) = 0
  · refine rx_ifF rfl (nf c0) rfl ?_
    refine rx_k 1 (10, [(0, .ref (b + (q + 15))), (1, .int a1), (2, .int a2)], [.int 0]) (fun _ _ => rfl) ?_
    rw [(show (D_X3_lengthenIn q s a1 a2) = (0, s) from ((if_pos c0).trans rfl))]
    try dsimp only
    exact rx_ri rfl
  · refine rx_ifT rfl (nt c0) ?_
    refine rx_k 3 (14, [(3, .int 0), (0, .ref (b + (q + 15))), (1, .int a1), (2, .int a2)], [.ref (b + (q + 15))]) (fun _ _ => rfl) ?_
    refine rx_getf rfl rfl (wl_15 hP hq) rfl ?_
    refine rx_k 1 (18, [(3, .int 0), (0, .ref (b + (q + 15))), (1, .int a1), (2, .int a2)], [.int a1, .ref (b + (q + 17))]) (fun _ _ => rfl) ?_
    refine rx_ild rfl rfl (wl_17 hP hq) (ar_at (rg_isIn c0 (m := 24) (n := 24) rfl)) ?_
    refine rx_k 3 (24, [(5, .int 0), (4, .int (s (q + 17) a1.toNatClampNeg)), (3, .int 0), (0, .ref (b + (q + 15))), (1, .int a1), (2, .int a2)], []) (fun _ _ => rfl) ?_
    refine rx_lo am_X3_lengthenIn (lo := [(0, .ref (b + (q + 15))), (1, .int a1), (2, .int a2), (3, .int 0), (4, .int (s (q + 17) a1.toNatClampNeg)), (5, .int 0)]) (List.forall_mem_cons.mpr ⟨List.mem_of_getElem? (i := 3) rfl, (List.forall_mem_cons.mpr ⟨List.mem_of_getElem? (i := 4) rfl, (List.forall_mem_cons.mpr ⟨List.mem_of_getElem? (i := 5) rfl, (List.forall_mem_cons.mpr ⟨List.mem_of_getElem? (i := 2) rfl, (List.forall_mem_cons.mpr ⟨List.mem_of_getElem? (i := 1) rfl, (List.forall_mem_cons.mpr ⟨List.mem_of_getElem? (i := 0) rfl, (fun _ h => absurd h List.not_mem_nil)⟩)⟩)⟩)⟩)⟩)⟩) rfl ?_
    refine rx_loop (B := B_X3_lengthenIn_24 q a1 a2) (fr := (fr_X3_lengthenIn_24 b w q a1 a2)) (E := (fe_X3_lengthenIn_24 b w q a1 a2)) (hp := (fun z => (wd b w wl H0 z.2.2.2, kn))) (vr := fun z => z.1) (I := (fun z => NN z.2.2.2)) (fun z o1 h1 hI1 hv1 hc1 he1 => b_X3_lengthenIn_24 hP hq (rg_isIn c0 (m := 24) (n := 24) rfl) z o1 h1 hI1 hv1 hc1 he1) (fun z hz => nb_X3_lengthenIn_24 hq z hz) BIG (0, 0, (s (q + 17) a1.toNatClampNeg), s) _ _ hN (by decide : (0 : Int) ≤ (0 : Int32).toInt) (le_enough (by decide : (0 : Int) ≤ (0 : Int32).toInt)) ?_
    rw [(show (D_X3_lengthenIn q s a1 a2) = (R_X3_lengthenIn_139 q ((itr (B_X3_lengthenIn_24 q a1 a2) BIG (0, 0, (s (q + 17) a1.toNatClampNeg), s)).2.2.2) ((itr (B_X3_lengthenIn_24 q a1 a2) BIG (0, 0, (s (q + 17) a1.toNatClampNeg), s)).2.1)) from ((if_neg c0).trans rfl))]
    exact r_X3_lengthenIn_139 hP hq (itr_inv (B := B_X3_lengthenIn_24 q a1 a2) (I := fun z => NN z.2.2.2) (fun z hz => nb_X3_lengthenIn_24 hq z hz) BIG (0, 0, (s (q + 17) a1.toNatClampNeg), s) hN)
theorem bz_X3_lengthenIn {q : Nat} {s : Sg} {a1 : Int32} {a2 : Int32} : bz (D_X3_lengthenIn q s a1 a2).1 = true := by
  by_cases c0 : (D_X11_isIn a1 24) = 0
  · rw [show (D_X3_lengthenIn q s a1 a2) = (0, s) from ((if_pos c0).trans rfl)]
    exact rfl
  · sorry
theorem rc_X3_lengthenIn (hP : WOK b w H0) {q : Nat} (hq : q = 38 ∨ q = 60) {s : Sg} {a1 : Int32} {a2 : Int32} (hN : NN s) : Rc sc 3 39 [.ref (b + (q + 15)), .int a1, .int a2] (wd b w wl H0 s, kn) (some (.int (D_X3_lengthenIn q s a1 a2).1)) (wd b w wl H0 (D_X3_lengthenIn q s a1 a2).2, kn) := rx_mc (m_X3_lengthenIn hP hq hN) rfl (bz_X3_lengthenIn ..) (Nat.ble_eq_true_of_le (Nat.le_refl _)) (Nat.ble_eq_true_of_le (Nat.le_refl _))
theorem nn_X3_lengthenIn {q : Nat} (hq : q = 38 ∨ q = 60) {s : Sg} {a1 : Int32} {a2 : Int32} (hN : NN s) : NN (D_X3_lengthenIn q s a1 a2).2 := by
  by_cases c0 : (D_X11_isIn a1 24) = 0
  · rw [show (D_X3_lengthenIn q s a1 a2) = (0, s) from ((if_pos c0).trans rfl)]
    try dsimp only
    exact hN
  · rw [show (D_X3_lengthenIn q s a1 a2) = (R_X3_lengthenIn_139 q ((itr (B_X3_lengthenIn_24 q a1 a2) BIG (0, 0, (s (q + 17) a1.toNatClampNeg), s)).2.2.2) ((itr (B_X3_lengthenIn_24 q a1 a2) BIG (0, 0, (s (q + 17) a1.toNatClampNeg), s)).2.1)) from ((if_neg c0).trans rfl)]
    try dsimp only
    exact (nr_X3_lengthenIn_139 hq (itr_inv (B := B_X3_lengthenIn_24 q a1 a2) (I := fun z => NN z.2.2.2) (fun z hz => nb_X3_lengthenIn_24 hq z hz) BIG (0, 0, (s (q + 17) a1.toNatClampNeg), s) hN))
theorem fwb_X3_lengthenIn_24 {q : Nat} {a1 : Int32} {a2 : Int32} {x : Int32 × Int32 × Int32 × Sg} {k j : Nat} (l19 : k ≠ q + 19) (l20 : k ≠ q + 20) : (B_X3_lengthenIn_24 q a1 a2 x).2.2.2.2 k j = x.2.2.2 k j := by
  by_cases c0 : 8 ≤ x.1
  · rw [show (B_X3_lengthenIn_24 q a1 a2 x) = (false, (x.1, x.2.1, x.2.2.1, x.2.2.2)) from ((if_pos c0).trans rfl)]
    first | done | (dsimp only; done) | ((try dsimp only); exact rfl)
  · by_cases c1 : (D_X8_kind x.2.2.2 a1 x.1) = 2
    · by_cases c2 : (x.2.2.2 (q + 20) ((a1 * 8) + x.1).toNatClampNeg) = 2
      · by_cases c3 : (D_J9_abs_0f7a4 ((x.2.2.1 + (x.2.2.2 (q + 20) ((a1 * 8) + x.1).toNatClampNeg)) - (D_X3_standsFor q x.2.2.2 (D_X8_name x.2.2.2 a1 x.1)))) ≤ a2
        · rw [show (B_X3_lengthenIn_24 q a1 a2 x) = (true, ((x.1 + 1), x.2.1, (x.2.2.1 + (x.2.2.2 (q + 20) ((a1 * 8) + x.1).toNatClampNeg)), x.2.2.2)) from ((if_neg c0).trans ((if_pos c1).trans ((if_pos c2).trans ((if_pos c3).trans rfl))))]
          first | done | (dsimp only; done) | ((try dsimp only); exact rfl)
        · rw [show (B_X3_lengthenIn_24 q a1 a2 x) = (true, ((x.1 + 1), 1, (x.2.2.1 + (x.2.2.2 (q + 20) ((a1 * 8) + x.1).toNatClampNeg)), (up (up x.2.2.2 (q + 20) ((a1 * 8) + x.1).toNatClampNeg 5) (q + 19) a1.toNatClampNeg ((x.2.2.2 (q + 19) a1.toNatClampNeg) + 1)))) from ((if_neg c0).trans ((if_pos c1).trans ((if_pos c2).trans ((if_neg c3).trans rfl))))]
          first | done | (dsimp only; done) | ((try dsimp only); exact ((up_a l19).trans ((up_a l20).trans rfl)))
      · rw [show (B_X3_lengthenIn_24 q a1 a2 x) = (true, ((x.1 + 1), x.2.1, (x.2.2.1 + (x.2.2.2 (q + 20) ((a1 * 8) + x.1).toNatClampNeg)), x.2.2.2)) from ((if_neg c0).trans ((if_pos c1).trans ((if_neg c2).trans rfl)))]
        first | done | (dsimp only; done) | ((try dsimp only); exact rfl)
    · rw [show (B_X3_lengthenIn_24 q a1 a2 x) = (true, ((x.1 + 1), x.2.1, (x.2.2.1 + (x.2.2.2 (q + 20) ((a1 * 8) + x.1).toNatClampNeg)), x.2.2.2)) from ((if_neg c0).trans ((if_neg c1).trans rfl))]
      first | done | (dsimp only; done) | ((try dsimp only); exact rfl)
theorem fwr_X3_lengthenIn_139 {q : Nat} {s : Sg} {a3 : Int32} {k j : Nat} (l19 : k ≠ q + 19) (l20 : k ≠ q + 20) : (R_X3_lengthenIn_139 q s a3).2 k j = s k j := by
  rw [show (R_X3_lengthenIn_139 q s a3) = (a3, s) from rfl]
  first | done | (dsimp only; done) | ((try dsimp only); exact rfl)
theorem fw_X3_lengthenIn {q : Nat} {s : Sg} {a1 : Int32} {a2 : Int32} {k j : Nat} (l19 : k ≠ q + 19) (l20 : k ≠ q + 20) : (D_X3_lengthenIn q s a1 a2).2 k j = s k j := by
  by_cases c0 : (D_X11_isIn a1 24) = 0
  · rw [show (D_X3_lengthenIn q s a1 a2) = (0, s) from ((if_pos c0).trans rfl)]
    first | done | (dsimp only; done) | ((try dsimp only); exact rfl)
  · rw [show (D_X3_lengthenIn q s a1 a2) = (R_X3_lengthenIn_139 q ((itr (B_X3_lengthenIn_24 q a1 a2) BIG (0, 0, (s (q + 17) a1.toNatClampNeg), s)).2.2.2) ((itr (B_X3_lengthenIn_24 q a1 a2) BIG (0, 0, (s (q + 17) a1.toNatClampNeg), s)).2.1)) from ((if_neg c0).trans rfl)]
    first | done | (dsimp only; done) | ((try dsimp only); exact ((fwr_X3_lengthenIn_139 l19 l20).trans ((itr_inv (B := B_X3_lengthenIn_24 q a1 a2) (I := fun z => z.2.2.2 k j = s k j) (fun z hz => (fwb_X3_lengthenIn_24 l19 l20).trans hz) BIG (0, 0, (s (q + 17) a1.toNatClampNeg), s) rfl).trans rfl)))
-- LinkHarbour$Layout.lengthenAll
def fr_X3_lengthenAll_4 (b w : Nat) (q : Nat) (a1 : Int32) (x : Int32 × Int32 × Sg) : EF := (4, [(0, .ref (b + (q + 15))), (1, .int a1), (2, .int x.2.1), (3, .int x.1)], [])
def fe_X3_lengthenAll_4 (b w : Nat) (q : Nat) (a1 : Int32) (x : Int32 × Int32 × Sg) : EF := (40, [(2, .int x.2.1)], [])
noncomputable def B_X3_lengthenAll_4 (q : Nat) (a1 : Int32) (x : Int32 × Int32 × Sg) : Bool × (Int32 × Int32 × Sg) := (if (x.2.2 (q + 15) 5) ≤ x.1 then (false, (x.1, x.2.1, x.2.2)) else (if 24 ≤ x.1 then (false, (x.1, x.2.1, x.2.2)) else (if (D_X3_lengthenIn q x.2.2 (x.2.2 (q + 16) x.1.toNatClampNeg) a1).1 = 0 then (true, ((x.1 + 1), x.2.1, (D_X3_lengthenIn q x.2.2 (x.2.2 (q + 16) x.1.toNatClampNeg) a1).2)) else (true, ((x.1 + 1), 1, (D_X3_lengthenIn q x.2.2 (x.2.2 (q + 16) x.1.toNatClampNeg) a1).2)))))
theorem b_X3_lengthenAll_4 (hP : WOK b w H0) {q : Nat} (hq : q = 38 ∨ q = 60) {a1 : Int32} (x : Int32 × Int32 × Sg) (o : Option Value) (h' : EH) (hN : NN x.2.2) (hv : 0 ≤ (x.1).toInt) (hc : (B_X3_lengthenAll_4 q a1 x).1 = true → (x.1).toInt < 2147483647 → (B_X3_lengthenAll_4 q a1 x).2.1 = x.1 + 1 → Rx sc g_X3_lengthenAll 3 (fr_X3_lengthenAll_4 b w q a1 (B_X3_lengthenAll_4 q a1 x).2) (wd b w wl H0 (B_X3_lengthenAll_4 q a1 x).2.2.2, kn) o h') (he : (B_X3_lengthenAll_4 q a1 x).1 = false → Rx sc g_X3_lengthenAll 3 (fe_X3_lengthenAll_4 b w q a1 (B_X3_lengthenAll_4 q a1 x).2) (wd b w wl H0 (B_X3_lengthenAll_4 q a1 x).2.2.2, kn) o h') : Rx sc g_X3_lengthenAll 3 (fr_X3_lengthenAll_4 b w q a1 x) (wd b w wl H0 x.2.2, kn) o h' := by
  show Rx sc g_X3_lengthenAll 3 (4, [(0, .ref (b + (q + 15))), (1, .int a1), (2, .int x.2.1), (3, .int x.1)], []) (wd b w wl H0 x.2.2, kn) o h'
  refine rx_k 2 (6, [(0, .ref (b + (q + 15))), (1, .int a1), (2, .int x.2.1), (3, .int x.1)], [.ref (b + (q + 15)), .int x.1]) (fun _ _ => rfl) ?_
  refine rx_getf rfl rfl (wl_15 hP hq) rfl ?_
  by_cases c0 : (x.2.2 (q + 15) 5) ≤ x.1
  · refine rx_icT rfl (bt c0) ?_
    rw [(show (B_X3_lengthenAll_4 q a1 x) = (false, (x.1, x.2.1, x.2.2)) from ((if_pos c0).trans rfl))] at he
    dsimp only at he
    exact rx_lo am_X3_lengthenAll (lo := [(2, .int x.2.1)]) (List.forall_mem_cons.mpr ⟨List.mem_of_getElem? (i := 2) rfl, (fun _ h => absurd h List.not_mem_nil)⟩) rfl (he rfl)
  · refine rx_icF rfl (bf c0) rfl ?_
    refine rx_k 2 (15, [(0, .ref (b + (q + 15))), (1, .int a1), (2, .int x.2.1), (3, .int x.1)], [.int 24, .int x.1]) (fun _ _ => rfl) ?_
    by_cases c1 : 24 ≤ x.1
    · refine rx_icT rfl (bt c1) ?_
      rw [(show (B_X3_lengthenAll_4 q a1 x) = (false, (x.1, x.2.1, x.2.2)) from ((if_neg c0).trans ((if_pos c1).trans rfl)))] at he
      dsimp only at he
      exact rx_lo am_X3_lengthenAll (lo := [(2, .int x.2.1)]) (List.forall_mem_cons.mpr ⟨List.mem_of_getElem? (i := 2) rfl, (fun _ h => absurd h List.not_mem_nil)⟩) rfl (he rfl)
    · refine rx_icF rfl (bf c1) rfl ?_
      refine rx_k 2 (20, [(0, .ref (b + (q + 15))), (1, .int a1), (2, .int x.2.1), (3, .int x.1)], [.ref (b + (q + 15)), .ref (b + (q + 15))]) (fun _ _ => rfl) ?_
      refine rx_getf rfl rfl (wl_15 hP hq) rfl ?_
      refine rx_k 1 (24, [(0, .ref (b + (q + 15))), (1, .int a1), (2, .int x.2.1), (3, .int x.1)], [.int x.1, .ref (b + (q + 16)), .ref (b + (q + 15))]) (fun _ _ => rfl) ?_
      refine rx_ild rfl rfl (wl_16 hP hq) (ar_at (rg_c hv c1 (m := 24) (n := 24) rfl)) ?_
      refine rx_k 1 (26, [(0, .ref (b + (q + 15))), (1, .int a1), (2, .int x.2.1), (3, .int x.1)], [.int a1, .int (x.2.2 (q + 16) x.1.toNatClampNeg), .ref (b + (q + 15))]) (fun _ _ => rfl) ?_
      refine rx_inv rfl rfl (rc_X3_lengthenIn hP hq hN) rfl rfl rfl (q_recv (wl_15 hP hq)) rfl rfl ?_
      by_cases c2 : (D_X3_lengthenIn q x.2.2 (x.2.2 (q + 16) x.1.toNatClampNeg) a1).1 = 0
      · refine rx_ifT rfl (bt c2) ?_
        refine rx_k 2 (4, [(3, .int (x.1 + 1)), (0, .ref (b + (q + 15))), (1, .int a1), (2, .int x.2.1)], []) (fun _ _ => rfl) ?_
        rw [(show (B_X3_lengthenAll_4 q a1 x) = (true, ((x.1 + 1), x.2.1, (D_X3_lengthenIn q x.2.2 (x.2.2 (q + 16) x.1.toNatClampNeg) a1).2)) from ((if_neg c0).trans ((if_neg c1).trans ((if_pos c2).trans rfl))))] at hc
        dsimp only at hc
        refine rx_lo am_X3_lengthenAll (lo := [(0, .ref (b + (q + 15))), (1, .int a1), (2, .int x.2.1), (3, .int (x.1 + 1))]) (List.forall_mem_cons.mpr ⟨List.mem_of_getElem? (i := 1) rfl, (List.forall_mem_cons.mpr ⟨List.mem_of_getElem? (i := 2) rfl, (List.forall_mem_cons.mpr ⟨List.mem_of_getElem? (i := 3) rfl, (List.forall_mem_cons.mpr ⟨List.mem_of_getElem? (i := 0) rfl, (fun _ h => absurd h List.not_mem_nil)⟩)⟩)⟩)⟩) rfl (hc rfl (lt_nle c0) rfl)
      · refine rx_ifF rfl (bf c2) rfl ?_
        refine rx_k 4 (4, [(3, .int (x.1 + 1)), (2, .int 1), (0, .ref (b + (q + 15))), (1, .int a1)], []) (fun _ _ => rfl) ?_
        rw [(show (B_X3_lengthenAll_4 q a1 x) = (true, ((x.1 + 1), 1, (D_X3_lengthenIn q x.2.2 (x.2.2 (q + 16) x.1.toNatClampNeg) a1).2)) from ((if_neg c0).trans ((if_neg c1).trans ((if_neg c2).trans rfl))))] at hc
        dsimp only at hc
        refine rx_lo am_X3_lengthenAll (lo := [(0, .ref (b + (q + 15))), (1, .int a1), (2, .int 1), (3, .int (x.1 + 1))]) (List.forall_mem_cons.mpr ⟨List.mem_of_getElem? (i := 2) rfl, (List.forall_mem_cons.mpr ⟨List.mem_of_getElem? (i := 3) rfl, (List.forall_mem_cons.mpr ⟨List.mem_of_getElem? (i := 1) rfl, (List.forall_mem_cons.mpr ⟨List.mem_of_getElem? (i := 0) rfl, (fun _ h => absurd h List.not_mem_nil)⟩)⟩)⟩)⟩) rfl (hc rfl (lt_nle c0) rfl)
theorem nb_X3_lengthenAll_4 {q : Nat} (hq : q = 38 ∨ q = 60) {a1 : Int32} (x : Int32 × Int32 × Sg) (hN : NN x.2.2) : NN ((B_X3_lengthenAll_4 q a1 x).2.2.2) := by
  by_cases c0 : (x.2.2 (q + 15) 5) ≤ x.1
  · rw [show (B_X3_lengthenAll_4 q a1 x) = (false, (x.1, x.2.1, x.2.2)) from ((if_pos c0).trans rfl)]
    try dsimp only
    exact hN
  · by_cases c1 : 24 ≤ x.1
    · rw [show (B_X3_lengthenAll_4 q a1 x) = (false, (x.1, x.2.1, x.2.2)) from ((if_neg c0).trans ((if_pos c1).trans rfl))]
      try dsimp only
      exact hN
    · by_cases c2 : (D_X3_lengthenIn q x.2.2 (x.2.2 (q + 16) x.1.toNatClampNeg) a1).1 = 0
      · rw [show (B_X3_lengthenAll_4 q a1 x) = (true, ((x.1 + 1), x.2.1, (D_X3_lengthenIn q x.2.2 (x.2.2 (q + 16) x.1.toNatClampNeg) a1).2)) from ((if_neg c0).trans ((if_neg c1).trans ((if_pos c2).trans rfl)))]
        try dsimp only
        exact (nn_X3_lengthenIn hq hN)
      · rw [show (B_X3_lengthenAll_4 q a1 x) = (true, ((x.1 + 1), 1, (D_X3_lengthenIn q x.2.2 (x.2.2 (q + 16) x.1.toNatClampNeg) a1).2)) from ((if_neg c0).trans ((if_neg c1).trans ((if_neg c2).trans rfl)))]
        try dsimp only
        exact (nn_X3_lengthenIn hq hN)
noncomputable def R_X3_lengthenAll_40 (q : Nat) (s : Sg) (a2 : Int32) : Int32 × Sg := (a2, s)
theorem r_X3_lengthenAll_40 (hP : WOK b w H0) {q : Nat} (hq : q = 38 ∨ q = 60) {s : Sg} {a2 : Int32} (hN : NN s) : Rx sc g_X3_lengthenAll 3 ((40, [(2, .int a2)], [])) (wd b w wl H0 s, kn) (some (.int (R_X3_lengthenAll_40 q s a2).1)) (wd b w wl H0 (R_X3_lengthenAll_40 q s a2).2, kn) := by
  show Rx sc g_X3_lengthenAll 3 (40, [(2, .int a2)], []) (wd b w wl H0 s, kn) (some (.int (R_X3_lengthenAll_40 q s a2).1)) (wd b w wl H0 (R_X3_lengthenAll_40 q s a2).2, kn)
  refine rx_k 1 (41, [(2, .int a2)], [.int a2]) (fun _ _ => rfl) ?_
  rw [(show (R_X3_lengthenAll_40 q s a2) = (a2, s) from rfl)]
  try dsimp only
  exact rx_ri rfl
theorem nr_X3_lengthenAll_40 {q : Nat} (hq : q = 38 ∨ q = 60) {s : Sg} {a2 : Int32} (hN : NN s) : NN ((R_X3_lengthenAll_40 q s a2).2) := by
  rw [show (R_X3_lengthenAll_40 q s a2) = (a2, s) from rfl]
  try dsimp only
  exact hN
noncomputable def D_X3_lengthenAll (q : Nat) (s : Sg) (a1 : Int32) : Int32 × Sg := (R_X3_lengthenAll_40 q ((itr (B_X3_lengthenAll_4 q a1) BIG (0, 0, s)).2.2) ((itr (B_X3_lengthenAll_4 q a1) BIG (0, 0, s)).2.1))
theorem m_X3_lengthenAll (hP : WOK b w H0) {q : Nat} (hq : q = 38 ∨ q = 60) {s : Sg} {a1 : Int32} (hN : NN s) : Rx sc g_X3_lengthenAll 3 ((0, [(0, .ref (b + (q + 15))), (1, .int a1)], [])) (wd b w wl H0 s, kn) (some (.int (D_X3_lengthenAll q s a1).1)) (wd b w wl H0 (D_X3_lengthenAll q s a1).2, kn) := by
  show Rx sc g_X3_lengthenAll 3 (0, [(0, .ref (b + (q + 15))), (1, .int a1)], []) (wd b w wl H0 s, kn) (some (.int (D_X3_lengthenAll q s a1).1)) (wd b w wl H0 (D_X3_lengthenAll q s a1).2, kn)
  refine rx_k 4 (4, [(3, .int 0), (2, .int 0), (0, .ref (b + (q + 15))), (1, .int a1)], []) (fun _ _ => rfl) ?_
  refine rx_lo am_X3_lengthenAll (lo := [(0, .ref (b + (q + 15))), (1, .int a1), (2, .int 0), (3, .int 0)]) (List.forall_mem_cons.mpr ⟨List.mem_of_getElem? (i := 2) rfl, (List.forall_mem_cons.mpr ⟨List.mem_of_getElem? (i := 3) rfl, (List.forall_mem_cons.mpr ⟨List.mem_of_getElem? (i := 1) rfl, (List.forall_mem_cons.mpr ⟨List.mem_of_getElem? (i := 0) rfl, (fun _ h => absurd h List.not_mem_nil)⟩)⟩)⟩)⟩) rfl ?_
  refine rx_loop (B := B_X3_lengthenAll_4 q a1) (fr := (fr_X3_lengthenAll_4 b w q a1)) (E := (fe_X3_lengthenAll_4 b w q a1)) (hp := (fun z => (wd b w wl H0 z.2.2, kn))) (vr := fun z => z.1) (I := (fun z => NN z.2.2)) (fun z o1 h1 hI1 hv1 hc1 he1 => b_X3_lengthenAll_4 hP hq z o1 h1 hI1 hv1 hc1 he1) (fun z hz => nb_X3_lengthenAll_4 hq z hz) BIG (0, 0, s) _ _ hN (by decide : (0 : Int) ≤ (0 : Int32).toInt) (le_enough (by decide : (0 : Int) ≤ (0 : Int32).toInt)) ?_
  rw [(show (D_X3_lengthenAll q s a1) = (R_X3_lengthenAll_40 q ((itr (B_X3_lengthenAll_4 q a1) BIG (0, 0, s)).2.2) ((itr (B_X3_lengthenAll_4 q a1) BIG (0, 0, s)).2.1)) from rfl)]
  exact r_X3_lengthenAll_40 hP hq (itr_inv (B := B_X3_lengthenAll_4 q a1) (I := fun z => NN z.2.2) (fun z hz => nb_X3_lengthenAll_4 hq z hz) BIG (0, 0, s) hN)
theorem bz_X3_lengthenAll {q : Nat} {s : Sg} {a1 : Int32} : bz (D_X3_lengthenAll q s a1).1 = true := by
  sorry
theorem rc_X3_lengthenAll (hP : WOK b w H0) {q : Nat} (hq : q = 38 ∨ q = 60) {s : Sg} {a1 : Int32} (hN : NN s) : Rc sc 4 38 [.ref (b + (q + 15)), .int a1] (wd b w wl H0 s, kn) (some (.int (D_X3_lengthenAll q s a1).1)) (wd b w wl H0 (D_X3_lengthenAll q s a1).2, kn) := rx_mc (m_X3_lengthenAll hP hq hN) rfl (bz_X3_lengthenAll ..) (Nat.ble_eq_true_of_le (Nat.le_refl _)) (Nat.ble_eq_true_of_le (Nat.le_refl _))
theorem nn_X3_lengthenAll {q : Nat} (hq : q = 38 ∨ q = 60) {s : Sg} {a1 : Int32} (hN : NN s) : NN (D_X3_lengthenAll q s a1).2 := by
  rw [show (D_X3_lengthenAll q s a1) = (R_X3_lengthenAll_40 q ((itr (B_X3_lengthenAll_4 q a1) BIG (0, 0, s)).2.2) ((itr (B_X3_lengthenAll_4 q a1) BIG (0, 0, s)).2.1)) from rfl]
  try dsimp only
  exact (nr_X3_lengthenAll_40 hq (itr_inv (B := B_X3_lengthenAll_4 q a1) (I := fun z => NN z.2.2) (fun z hz => nb_X3_lengthenAll_4 hq z hz) BIG (0, 0, s) hN))
theorem fwb_X3_lengthenAll_4 {q : Nat} {a1 : Int32} {x : Int32 × Int32 × Sg} {k j : Nat} (l19 : k ≠ q + 19) (l20 : k ≠ q + 20) : (B_X3_lengthenAll_4 q a1 x).2.2.2 k j = x.2.2 k j := by
  by_cases c0 : (x.2.2 (q + 15) 5) ≤ x.1
  · rw [show (B_X3_lengthenAll_4 q a1 x) = (false, (x.1, x.2.1, x.2.2)) from ((if_pos c0).trans rfl)]
    first | done | (dsimp only; done) | ((try dsimp only); exact rfl)
  · by_cases c1 : 24 ≤ x.1
    · rw [show (B_X3_lengthenAll_4 q a1 x) = (false, (x.1, x.2.1, x.2.2)) from ((if_neg c0).trans ((if_pos c1).trans rfl))]
      first | done | (dsimp only; done) | ((try dsimp only); exact rfl)
    · by_cases c2 : (D_X3_lengthenIn q x.2.2 (x.2.2 (q + 16) x.1.toNatClampNeg) a1).1 = 0
      · rw [show (B_X3_lengthenAll_4 q a1 x) = (true, ((x.1 + 1), x.2.1, (D_X3_lengthenIn q x.2.2 (x.2.2 (q + 16) x.1.toNatClampNeg) a1).2)) from ((if_neg c0).trans ((if_neg c1).trans ((if_pos c2).trans rfl)))]
        first | done | (dsimp only; done) | ((try dsimp only); exact ((fw_X3_lengthenIn l19 l20).trans rfl))
      · rw [show (B_X3_lengthenAll_4 q a1 x) = (true, ((x.1 + 1), 1, (D_X3_lengthenIn q x.2.2 (x.2.2 (q + 16) x.1.toNatClampNeg) a1).2)) from ((if_neg c0).trans ((if_neg c1).trans ((if_neg c2).trans rfl)))]
        first | done | (dsimp only; done) | ((try dsimp only); exact ((fw_X3_lengthenIn l19 l20).trans rfl))
theorem fwr_X3_lengthenAll_40 {q : Nat} {s : Sg} {a2 : Int32} {k j : Nat} (l19 : k ≠ q + 19) (l20 : k ≠ q + 20) : (R_X3_lengthenAll_40 q s a2).2 k j = s k j := by
  rw [show (R_X3_lengthenAll_40 q s a2) = (a2, s) from rfl]
  first | done | (dsimp only; done) | ((try dsimp only); exact rfl)
theorem fw_X3_lengthenAll {q : Nat} {s : Sg} {a1 : Int32} {k j : Nat} (l19 : k ≠ q + 19) (l20 : k ≠ q + 20) : (D_X3_lengthenAll q s a1).2 k j = s k j := by
  rw [show (D_X3_lengthenAll q s a1) = (R_X3_lengthenAll_40 q ((itr (B_X3_lengthenAll_4 q a1) BIG (0, 0, s)).2.2) ((itr (B_X3_lengthenAll_4 q a1) BIG (0, 0, s)).2.1)) from rfl]
  first | done | (dsimp only; done) | ((try dsimp only); exact ((fwr_X3_lengthenAll_40 l19 l20).trans ((itr_inv (B := B_X3_lengthenAll_4 q a1) (I := fun z => z.2.2 k j = s k j) (fun z hz => (fwb_X3_lengthenAll_4 l19 l20).trans hz) BIG (0, 0, s) rfl).trans rfl)))
-- LinkHarbour$Layout.layOut
def fr_X3_layOut_6 (b w : Nat) (q : Nat) (a1 : Int32) (x : Int32 × Sg) : EF := (6, [(0, .ref (b + (q + 15))), (1, .int a1), (2, .int x.1)], [])
def fe_X3_layOut_6 (b w : Nat) (q : Nat) (a1 : Int32) (x : Int32 × Sg) : EF := (42, [], [])
noncomputable def B_X3_layOut_6 (q : Nat) (a1 : Int32) (x : Int32 × Sg) : Bool × (Int32 × Sg) := (if 192 < x.1 then (false, (x.1, x.2)) else (if (D_X3_lengthenAll q (D_X3_addressNames q (D_X3_placeCommons q (D_X3_placeSections q x.2))) a1).1 = 0 then (false, (x.1, (D_X3_lengthenAll q (D_X3_addressNames q (D_X3_placeCommons q (D_X3_placeSections q x.2))) a1).2)) else (true, ((x.1 + 1), (D_X3_lengthenAll q (D_X3_addressNames q (D_X3_placeCommons q (D_X3_placeSections q x.2))) a1).2))))
theorem b_X3_layOut_6 (hP : WOK b w H0) {q : Nat} (hq : q = 38 ∨ q = 60) {a1 : Int32} (x : Int32 × Sg) (o : Option Value) (h' : EH) (hN : NN x.2) (hv : 0 ≤ (x.1).toInt) (hc : (B_X3_layOut_6 q a1 x).1 = true → (x.1).toInt < 2147483647 → (B_X3_layOut_6 q a1 x).2.1 = x.1 + 1 → Rx sc g_X3_layOut 4 (fr_X3_layOut_6 b w q a1 (B_X3_layOut_6 q a1 x).2) (wd b w wl H0 (B_X3_layOut_6 q a1 x).2.2, kn) o h') (he : (B_X3_layOut_6 q a1 x).1 = false → Rx sc g_X3_layOut 4 (fe_X3_layOut_6 b w q a1 (B_X3_layOut_6 q a1 x).2) (wd b w wl H0 (B_X3_layOut_6 q a1 x).2.2, kn) o h') : Rx sc g_X3_layOut 4 (fr_X3_layOut_6 b w q a1 x) (wd b w wl H0 x.2, kn) o h' := by
  show Rx sc g_X3_layOut 4 (6, [(0, .ref (b + (q + 15))), (1, .int a1), (2, .int x.1)], []) (wd b w wl H0 x.2, kn) o h'
  refine rx_k 2 (10, [(0, .ref (b + (q + 15))), (1, .int a1), (2, .int x.1)], [.int 192, .int x.1]) (fun _ _ => rfl) ?_
  by_cases c0 : 192 < x.1
  · refine rx_icT rfl (bt c0) ?_
    rw [(show (B_X3_layOut_6 q a1 x) = (false, (x.1, x.2)) from ((if_pos c0).trans rfl))] at he
    dsimp only at he
    exact rx_lo am_X3_layOut (lo := []) (fun _ h => absurd h List.not_mem_nil) rfl (he rfl)
  · refine rx_icF rfl (bf c0) rfl ?_
    refine rx_k 1 (14, [(0, .ref (b + (q + 15))), (1, .int a1), (2, .int x.1)], [.ref (b + (q + 15))]) (fun _ _ => rfl) ?_
    refine rx_inv rfl rfl (rc_X3_placeSections hP hq hN) rfl rfl rfl (q_recv (wl_15 hP hq)) rfl rfl ?_
    refine rx_k 1 (18, [(0, .ref (b + (q + 15))), (1, .int a1), (2, .int x.1)], [.ref (b + (q + 15))]) (fun _ _ => rfl) ?_
    refine rx_inv rfl rfl (rc_X3_placeCommons hP hq (nn_X3_placeSections hq hN)) rfl rfl rfl (q_recv (wl_15 hP hq)) rfl rfl ?_
    refine rx_k 1 (22, [(0, .ref (b + (q + 15))), (1, .int a1), (2, .int x.1)], [.ref (b + (q + 15))]) (fun _ _ => rfl) ?_
    refine rx_inv rfl rfl (rc_X3_addressNames hP hq (nn_X3_placeCommons hq (nn_X3_placeSections hq hN))) rfl rfl rfl (q_recv (wl_15 hP hq)) rfl rfl ?_
    refine rx_k 2 (27, [(0, .ref (b + (q + 15))), (1, .int a1), (2, .int x.1)], [.int a1, .ref (b + (q + 15))]) (fun _ _ => rfl) ?_
    refine rx_inv rfl rfl (rc_X3_lengthenAll hP hq (nn_X3_addressNames hq (nn_X3_placeCommons hq (nn_X3_placeSections hq hN)))) rfl rfl rfl (q_recv (wl_15 hP hq)) rfl rfl ?_
    by_cases c1 : (D_X3_lengthenAll q (D_X3_addressNames q (D_X3_placeCommons q (D_X3_placeSections q x.2))) a1).1 = 0
    · refine rx_ifF rfl (nf c1) rfl ?_
      refine rx_k 1 (42, [(0, .ref (b + (q + 15))), (1, .int a1), (2, .int x.1)], []) (fun _ _ => rfl) ?_
      rw [(show (B_X3_layOut_6 q a1 x) = (false, (x.1, (D_X3_lengthenAll q (D_X3_addressNames q (D_X3_placeCommons q (D_X3_placeSections q x.2))) a1).2)) from ((if_neg c0).trans ((if_pos c1).trans rfl)))] at he
      dsimp only at he
      exact rx_lo am_X3_layOut (lo := []) (fun _ h => absurd h List.not_mem_nil) rfl (he rfl)
    · refine rx_ifT rfl (nt c1) ?_
      refine rx_k 2 (6, [(2, .int (x.1 + 1)), (0, .ref (b + (q + 15))), (1, .int a1)], []) (fun _ _ => rfl) ?_
      rw [(show (B_X3_layOut_6 q a1 x) = (true, ((x.1 + 1), (D_X3_lengthenAll q (D_X3_addressNames q (D_X3_placeCommons q (D_X3_placeSections q x.2))) a1).2)) from ((if_neg c0).trans ((if_neg c1).trans rfl)))] at hc
      dsimp only at hc
      refine rx_lo am_X3_layOut (lo := [(0, .ref (b + (q + 15))), (1, .int a1), (2, .int (x.1 + 1))]) (List.forall_mem_cons.mpr ⟨List.mem_of_getElem? (i := 1) rfl, (List.forall_mem_cons.mpr ⟨List.mem_of_getElem? (i := 2) rfl, (List.forall_mem_cons.mpr ⟨List.mem_of_getElem? (i := 0) rfl, (fun _ h => absurd h List.not_mem_nil)⟩)⟩)⟩) rfl (hc rfl (lt_le (Int32.not_lt.mp c0) (m := 192) (n := 192) rfl (by decide)) rfl)
theorem nb_X3_layOut_6 {q : Nat} (hq : q = 38 ∨ q = 60) {a1 : Int32} (x : Int32 × Sg) (hN : NN x.2) : NN ((B_X3_layOut_6 q a1 x).2.2) := by
  by_cases c0 : 192 < x.1
  · rw [show (B_X3_layOut_6 q a1 x) = (false, (x.1, x.2)) from ((if_pos c0).trans rfl)]
    try dsimp only
    exact hN
  · by_cases c1 : (D_X3_lengthenAll q (D_X3_addressNames q (D_X3_placeCommons q (D_X3_placeSections q x.2))) a1).1 = 0
    · rw [show (B_X3_layOut_6 q a1 x) = (false, (x.1, (D_X3_lengthenAll q (D_X3_addressNames q (D_X3_placeCommons q (D_X3_placeSections q x.2))) a1).2)) from ((if_neg c0).trans ((if_pos c1).trans rfl))]
      try dsimp only
      exact (nn_X3_lengthenAll hq (nn_X3_addressNames hq (nn_X3_placeCommons hq (nn_X3_placeSections hq hN))))
    · rw [show (B_X3_layOut_6 q a1 x) = (true, ((x.1 + 1), (D_X3_lengthenAll q (D_X3_addressNames q (D_X3_placeCommons q (D_X3_placeSections q x.2))) a1).2)) from ((if_neg c0).trans ((if_neg c1).trans rfl))]
      try dsimp only
      exact (nn_X3_lengthenAll hq (nn_X3_addressNames hq (nn_X3_placeCommons hq (nn_X3_placeSections hq hN))))
noncomputable def R_X3_layOut_42 (q : Nat) (s : Sg) : Sg := s
theorem r_X3_layOut_42 (hP : WOK b w H0) {q : Nat} (hq : q = 38 ∨ q = 60) {s : Sg} (hN : NN s) : Rx sc g_X3_layOut 4 ((42, [], [])) (wd b w wl H0 s, kn) none (wd b w wl H0 (R_X3_layOut_42 q s), kn) := by
  show Rx sc g_X3_layOut 4 (42, [], []) (wd b w wl H0 s, kn) none (wd b w wl H0 (R_X3_layOut_42 q s), kn)
  rw [(show (R_X3_layOut_42 q s) = s from rfl)]
  try dsimp only
  exact rx_rv rfl
theorem nr_X3_layOut_42 {q : Nat} (hq : q = 38 ∨ q = 60) {s : Sg} (hN : NN s) : NN ((R_X3_layOut_42 q s)) := by
  rw [show (R_X3_layOut_42 q s) = s from rfl]
  try dsimp only
  exact hN
noncomputable def D_X3_layOut (q : Nat) (s : Sg) (a1 : Int32) : Sg := (R_X3_layOut_42 q ((itr (B_X3_layOut_6 q a1) BIG (0, (D_X3_orderSections q s))).2))
theorem m_X3_layOut (hP : WOK b w H0) {q : Nat} (hq : q = 38 ∨ q = 60) {s : Sg} {a1 : Int32} (hN : NN s) : Rx sc g_X3_layOut 4 ((0, [(0, .ref (b + (q + 15))), (1, .int a1)], [])) (wd b w wl H0 s, kn) none (wd b w wl H0 (D_X3_layOut q s a1), kn) := by
  show Rx sc g_X3_layOut 4 (0, [(0, .ref (b + (q + 15))), (1, .int a1)], []) (wd b w wl H0 s, kn) none (wd b w wl H0 (D_X3_layOut q s a1), kn)
  refine rx_k 1 (1, [(0, .ref (b + (q + 15))), (1, .int a1)], [.ref (b + (q + 15))]) (fun _ _ => rfl) ?_
  refine rx_inv rfl rfl (rc_X3_orderSections hP hq hN) rfl rfl rfl (q_recv (wl_15 hP hq)) rfl rfl ?_
  refine rx_k 2 (6, [(2, .int 0), (0, .ref (b + (q + 15))), (1, .int a1)], []) (fun _ _ => rfl) ?_
  refine rx_lo am_X3_layOut (lo := [(0, .ref (b + (q + 15))), (1, .int a1), (2, .int 0)]) (List.forall_mem_cons.mpr ⟨List.mem_of_getElem? (i := 1) rfl, (List.forall_mem_cons.mpr ⟨List.mem_of_getElem? (i := 2) rfl, (List.forall_mem_cons.mpr ⟨List.mem_of_getElem? (i := 0) rfl, (fun _ h => absurd h List.not_mem_nil)⟩)⟩)⟩) rfl ?_
  refine rx_loop (B := B_X3_layOut_6 q a1) (fr := (fr_X3_layOut_6 b w q a1)) (E := (fe_X3_layOut_6 b w q a1)) (hp := (fun z => (wd b w wl H0 z.2, kn))) (vr := fun z => z.1) (I := (fun z => NN z.2)) (fun z o1 h1 hI1 hv1 hc1 he1 => b_X3_layOut_6 hP hq z o1 h1 hI1 hv1 hc1 he1) (fun z hz => nb_X3_layOut_6 hq z hz) BIG (0, (D_X3_orderSections q s)) _ _ (nn_X3_orderSections hq hN) (by decide : (0 : Int) ≤ (0 : Int32).toInt) (le_enough (by decide : (0 : Int) ≤ (0 : Int32).toInt)) ?_
  rw [(show (D_X3_layOut q s a1) = (R_X3_layOut_42 q ((itr (B_X3_layOut_6 q a1) BIG (0, (D_X3_orderSections q s))).2)) from rfl)]
  exact r_X3_layOut_42 hP hq (itr_inv (B := B_X3_layOut_6 q a1) (I := fun z => NN z.2) (fun z hz => nb_X3_layOut_6 hq z hz) BIG (0, (D_X3_orderSections q s)) (nn_X3_orderSections hq hN))
theorem rc_X3_layOut (hP : WOK b w H0) {q : Nat} (hq : q = 38 ∨ q = 60) {s : Sg} {a1 : Int32} (hN : NN s) : Rc sc 5 31 [.ref (b + (q + 15)), .int a1] (wd b w wl H0 s, kn) none (wd b w wl H0 (D_X3_layOut q s a1), kn) := rx_mc (m_X3_layOut hP hq hN) rfl rfl (Nat.ble_eq_true_of_le (Nat.le_refl _)) (Nat.ble_eq_true_of_le (Nat.le_refl _))
theorem nn_X3_layOut {q : Nat} (hq : q = 38 ∨ q = 60) {s : Sg} {a1 : Int32} (hN : NN s) : NN (D_X3_layOut q s a1) := by
  rw [show (D_X3_layOut q s a1) = (R_X3_layOut_42 q ((itr (B_X3_layOut_6 q a1) BIG (0, (D_X3_orderSections q s))).2)) from rfl]
  try dsimp only
  exact (nr_X3_layOut_42 hq (itr_inv (B := B_X3_layOut_6 q a1) (I := fun z => NN z.2) (fun z hz => nb_X3_layOut_6 hq z hz) BIG (0, (D_X3_orderSections q s)) (nn_X3_orderSections hq hN)))
theorem fwb_X3_layOut_6 {q : Nat} {a1 : Int32} {x : Int32 × Sg} {k j : Nat} (l15f5 : k ≠ q + 15 ∨ j ≠ 5) (l15f11 : k ≠ q + 15 ∨ j ≠ 11) (l15f12 : k ≠ q + 15 ∨ j ≠ 12) (l16 : k ≠ q + 16) (l17 : k ≠ q + 17) (l18 : k ≠ q + 18) (l19 : k ≠ q + 19) (l20 : k ≠ q + 20) (l21 : k ≠ q + 21) : (B_X3_layOut_6 q a1 x).2.2 k j = x.2 k j := by
  by_cases c0 : 192 < x.1
  · rw [show (B_X3_layOut_6 q a1 x) = (false, (x.1, x.2)) from ((if_pos c0).trans rfl)]
    first | done | (dsimp only; done) | ((try dsimp only); exact rfl)
  · by_cases c1 : (D_X3_lengthenAll q (D_X3_addressNames q (D_X3_placeCommons q (D_X3_placeSections q x.2))) a1).1 = 0
    · rw [show (B_X3_layOut_6 q a1 x) = (false, (x.1, (D_X3_lengthenAll q (D_X3_addressNames q (D_X3_placeCommons q (D_X3_placeSections q x.2))) a1).2)) from ((if_neg c0).trans ((if_pos c1).trans rfl))]
      first | done | (dsimp only; done) | ((try dsimp only); exact ((fw_X3_lengthenAll l19 l20).trans ((fw_X3_addressNames l21).trans ((fw_X3_placeCommons l15f11 l15f12 l21).trans ((fw_X3_placeSections l15f11 l15f12 l17 l18).trans rfl)))))
    · rw [show (B_X3_layOut_6 q a1 x) = (true, ((x.1 + 1), (D_X3_lengthenAll q (D_X3_addressNames q (D_X3_placeCommons q (D_X3_placeSections q x.2))) a1).2)) from ((if_neg c0).trans ((if_neg c1).trans rfl))]
      first | done | (dsimp only; done) | ((try dsimp only); exact ((fw_X3_lengthenAll l19 l20).trans ((fw_X3_addressNames l21).trans ((fw_X3_placeCommons l15f11 l15f12 l21).trans ((fw_X3_placeSections l15f11 l15f12 l17 l18).trans rfl)))))
theorem fwr_X3_layOut_42 {q : Nat} {s : Sg} {k j : Nat} (l15f5 : k ≠ q + 15 ∨ j ≠ 5) (l15f11 : k ≠ q + 15 ∨ j ≠ 11) (l15f12 : k ≠ q + 15 ∨ j ≠ 12) (l16 : k ≠ q + 16) (l17 : k ≠ q + 17) (l18 : k ≠ q + 18) (l19 : k ≠ q + 19) (l20 : k ≠ q + 20) (l21 : k ≠ q + 21) : (R_X3_layOut_42 q s) k j = s k j := by
  rw [show (R_X3_layOut_42 q s) = s from rfl]
  first | done | (dsimp only; done) | ((try dsimp only); exact rfl)
theorem fw_X3_layOut {q : Nat} {s : Sg} {a1 : Int32} {k j : Nat} (l15f5 : k ≠ q + 15 ∨ j ≠ 5) (l15f11 : k ≠ q + 15 ∨ j ≠ 11) (l15f12 : k ≠ q + 15 ∨ j ≠ 12) (l16 : k ≠ q + 16) (l17 : k ≠ q + 17) (l18 : k ≠ q + 18) (l19 : k ≠ q + 19) (l20 : k ≠ q + 20) (l21 : k ≠ q + 21) : (D_X3_layOut q s a1) k j = s k j := by
  rw [show (D_X3_layOut q s a1) = (R_X3_layOut_42 q ((itr (B_X3_layOut_6 q a1) BIG (0, (D_X3_orderSections q s))).2)) from rfl]
  first | done | (dsimp only; done) | ((try dsimp only); exact ((fwr_X3_layOut_42 l15f5 l15f11 l15f12 l16 l17 l18 l19 l20 l21).trans ((itr_inv (B := B_X3_layOut_6 q a1) (I := fun z => z.2 k j = (D_X3_orderSections q s) k j) (fun z hz => (fwb_X3_layOut_6 l15f5 l15f11 l15f12 l16 l17 l18 l19 l20 l21).trans hz) BIG (0, (D_X3_orderSections q s)) rfl).trans ((fw_X3_orderSections l15f5 l16 l19 l20).trans rfl))))
-- LinkHarbour$LibraryTable.count
noncomputable def D_X4_count (s : Sg) : Int32 := (s 23 13)
theorem m_X4_count (hP : WOK b w H0) {s : Sg} : Rx sc g_X4_count 0 ((0, [(0, .ref (b + 23))], [])) (wd b w wl H0 s, kn) (some (.int (D_X4_count s))) (wd b w wl H0 s, kn) := by
  show Rx sc g_X4_count 0 (0, [(0, .ref (b + 23))], []) (wd b w wl H0 s, kn) (some (.int (D_X4_count s))) (wd b w wl H0 s, kn)
  refine rx_k 1 (1, [(0, .ref (b + 23))], [.ref (b + 23)]) (fun _ _ => rfl) ?_
  refine rx_getf rfl rfl (wg_23 hP) rfl ?_
  rw [(show (D_X4_count s) = (s 23 13) from rfl)]
  try dsimp only
  exact rx_ri rfl
theorem rc_X4_count (hP : WOK b w H0) {s : Sg} : Rc sc 1 41 [.ref (b + 23)] (wd b w wl H0 s, kn) (some (.int (D_X4_count s))) (wd b w wl H0 s, kn) := rx_mc (m_X4_count hP) rfl rfl (Nat.ble_eq_true_of_le (Nat.le_refl _)) (Nat.ble_eq_true_of_le (Nat.le_refl _))
-- LinkHarbour$LibraryTable.isFull
noncomputable def D_X4_isFull (s : Sg) : Int32 := (if (s 23 13) < 6 then 0 else 1)
theorem m_X4_isFull (hP : WOK b w H0) {s : Sg} : Rx sc g_X4_isFull 0 ((0, [(0, .ref (b + 23))], [])) (wd b w wl H0 s, kn) (some (.int (D_X4_isFull s))) (wd b w wl H0 s, kn) := by
  show Rx sc g_X4_isFull 0 (0, [(0, .ref (b + 23))], []) (wd b w wl H0 s, kn) (some (.int (D_X4_isFull s))) (wd b w wl H0 s, kn)
  refine rx_k 1 (1, [(0, .ref (b + 23))], [.ref (b + 23)]) (fun _ _ => rfl) ?_
  refine rx_getf rfl rfl (wg_23 hP) rfl ?_
  refine rx_k 1 (6, [(0, .ref (b + 23))], [.int 6, .int (s 23 13)]) (fun _ _ => rfl) ?_
  by_cases c0 : (s 23 13) < 6
  · refine rx_icT rfl (bt c0) ?_
    refine rx_k 1 (14, [(0, .ref (b + 23))], [.int 0]) (fun _ _ => rfl) ?_
    rw [(show (D_X4_isFull s) = 0 from ((if_pos c0).trans rfl))]
    try dsimp only
    exact rx_ri rfl
  · refine rx_icF rfl (bf c0) rfl ?_
    refine rx_k 2 (14, [(0, .ref (b + 23))], [.int 1]) (fun _ _ => rfl) ?_
    rw [(show (D_X4_isFull s) = 1 from ((if_neg c0).trans rfl))]
    try dsimp only
    exact rx_ri rfl
theorem bz_X4_isFull {s : Sg} : bz (D_X4_isFull s) = true := by
  by_cases c0 : (s 23 13) < 6
  · rw [show (D_X4_isFull s) = 0 from ((if_pos c0).trans rfl)]
    exact rfl
  · rw [show (D_X4_isFull s) = 1 from ((if_neg c0).trans rfl)]
    exact rfl
theorem rc_X4_isFull (hP : WOK b w H0) {s : Sg} : Rc sc 1 42 [.ref (b + 23)] (wd b w wl H0 s, kn) (some (.int (D_X4_isFull s))) (wd b w wl H0 s, kn) := rx_mc (m_X4_isFull hP) rfl (bz_X4_isFull ..) (Nat.ble_eq_true_of_le (Nat.le_refl _)) (Nat.ble_eq_true_of_le (Nat.le_refl _))
theorem nf_X4_isFull {s : Sg} (h : D_X4_isFull s = 0) : ¬ 6 ≤ s 23 13 := by
  unfold D_X4_isFull at h
  split at h
  · exact Int32.not_le.mpr (by assumption)
  · cases h
-- LinkHarbour$LibraryTable.has
noncomputable def D_X4_has (s : Sg) (a1 : Int32) : Int32 := (if a1 < 0 then 0 else (if (s 23 13) ≤ a1 then 0 else (if 6 ≤ a1 then 0 else 1)))
theorem m_X4_has (hP : WOK b w H0) {s : Sg} {a1 : Int32} : Rx sc g_X4_has 0 ((0, [(0, .ref (b + 23)), (1, .int a1)], [])) (wd b w wl H0 s, kn) (some (.int (D_X4_has s a1))) (wd b w wl H0 s, kn) := by
  show Rx sc g_X4_has 0 (0, [(0, .ref (b + 23)), (1, .int a1)], []) (wd b w wl H0 s, kn) (some (.int (D_X4_has s a1))) (wd b w wl H0 s, kn)
  refine rx_k 1 (1, [(0, .ref (b + 23)), (1, .int a1)], [.int a1]) (fun _ _ => rfl) ?_
  by_cases c0 : a1 < 0
  · refine rx_ifT rfl (bt c0) ?_
    refine rx_k 1 (23, [(0, .ref (b + 23)), (1, .int a1)], [.int 0]) (fun _ _ => rfl) ?_
    rw [(show (D_X4_has s a1) = 0 from ((if_pos c0).trans rfl))]
    try dsimp only
    exact rx_ri rfl
  · refine rx_ifF rfl (bf c0) rfl ?_
    refine rx_k 2 (6, [(0, .ref (b + 23)), (1, .int a1)], [.ref (b + 23), .int a1]) (fun _ _ => rfl) ?_
    refine rx_getf rfl rfl (wg_23 hP) rfl ?_
    by_cases c1 : (s 23 13) ≤ a1
    · refine rx_icT rfl (bt c1) ?_
      refine rx_k 1 (23, [(0, .ref (b + 23)), (1, .int a1)], [.int 0]) (fun _ _ => rfl) ?_
      rw [(show (D_X4_has s a1) = 0 from ((if_neg c0).trans ((if_pos c1).trans rfl)))]
      try dsimp only
      exact rx_ri rfl
    · refine rx_icF rfl (bf c1) rfl ?_
      refine rx_k 2 (15, [(0, .ref (b + 23)), (1, .int a1)], [.int 6, .int a1]) (fun _ _ => rfl) ?_
      by_cases c2 : 6 ≤ a1
      · refine rx_icT rfl (bt c2) ?_
        refine rx_k 1 (23, [(0, .ref (b + 23)), (1, .int a1)], [.int 0]) (fun _ _ => rfl) ?_
        rw [(show (D_X4_has s a1) = 0 from ((if_neg c0).trans ((if_neg c1).trans ((if_pos c2).trans rfl))))]
        try dsimp only
        exact rx_ri rfl
      · refine rx_icF rfl (bf c2) rfl ?_
        refine rx_k 2 (23, [(0, .ref (b + 23)), (1, .int a1)], [.int 1]) (fun _ _ => rfl) ?_
        rw [(show (D_X4_has s a1) = 1 from ((if_neg c0).trans ((if_neg c1).trans ((if_neg c2).trans rfl))))]
        try dsimp only
        exact rx_ri rfl
theorem bz_X4_has {s : Sg} {a1 : Int32} : bz (D_X4_has s a1) = true := by
  by_cases c0 : a1 < 0
  · rw [show (D_X4_has s a1) = 0 from ((if_pos c0).trans rfl)]
    exact rfl
  · by_cases c1 : (s 23 13) ≤ a1
    · rw [show (D_X4_has s a1) = 0 from ((if_neg c0).trans ((if_pos c1).trans rfl))]
      exact rfl
    · by_cases c2 : 6 ≤ a1
      · rw [show (D_X4_has s a1) = 0 from ((if_neg c0).trans ((if_neg c1).trans ((if_pos c2).trans rfl)))]
        exact rfl
      · rw [show (D_X4_has s a1) = 1 from ((if_neg c0).trans ((if_neg c1).trans ((if_neg c2).trans rfl)))]
        exact rfl
theorem rc_X4_has (hP : WOK b w H0) {s : Sg} {a1 : Int32} : Rc sc 1 43 [.ref (b + 23), .int a1] (wd b w wl H0 s, kn) (some (.int (D_X4_has s a1))) (wd b w wl H0 s, kn) := rx_mc (m_X4_has hP) rfl (bz_X4_has ..) (Nat.ble_eq_true_of_le (Nat.le_refl _)) (Nat.ble_eq_true_of_le (Nat.le_refl _))
theorem rg_X4_has {s : Sg} {a : Int32} (h : ¬ D_X4_has s a = 0) : rg a 6 := by
  unfold D_X4_has at h
  split at h <;> first | exact absurd rfl h | skip
  split at h <;> first | exact absurd rfl h | skip
  split at h <;> first | exact absurd rfl h | skip
  exact rg_b (by assumption) (by assumption) (m := 6) rfl
theorem has_4 {s : Sg} {a : Int32} (h1 : 0 ≤ a.toInt) (h2 : ¬ D_X4_count s ≤ a) (h3 : (s 23 13).toInt ≤ 6) : ¬ D_X4_has s a = 0 := by
  have h4 : ¬ s 23 13 ≤ a := h2
  have h5 : a.toInt < (s 23 13).toInt := Int32.lt_iff_toInt_lt.mp (Int32.not_le.mp h4)
  unfold D_X4_has
  rw [if_neg (n_lt h1), if_neg h4, if_neg (n_le (m := 6) (n := 6) (by omega) rfl)]
  decide
-- LinkHarbour$LibraryTable.size
noncomputable def D_X4_size (s : Sg) (a1 : Int32) : Int32 := (if (D_X4_has s a1) = 0 then 0 else (s 24 a1.toNatClampNeg))
theorem m_X4_size (hP : WOK b w H0) {s : Sg} {a1 : Int32} : Rx sc g_X4_size 1 ((0, [(0, .ref (b + 23)), (1, .int a1)], [])) (wd b w wl H0 s, kn) (some (.int (D_X4_size s a1))) (wd b w wl H0 s, kn) := by
  show Rx sc g_X4_size 1 (0, [(0, .ref (b + 23)), (1, .int a1)], []) (wd b w wl H0 s, kn) (some (.int (D_X4_size s a1))) (wd b w wl H0 s, kn)
  refine rx_k 2 (2, [(0, .ref (b + 23)), (1, .int a1)], [.int a1, .ref (b + 23)]) (fun _ _ => rfl) ?_
  refine rx_inv rfl rfl (rc_X4_has hP) rfl rfl rfl (q_recv (wg_23 hP)) rfl rfl ?_
  by_cases c0 : (D_X4_has s a1) = 0
  · refine rx_ifT rfl (bt c0) ?_
    refine rx_k 1 (18, [(0, .ref (b + 23)), (1, .int a1)], [.int 0]) (fun _ _ => rfl) ?_
    rw [(show (D_X4_size s a1) = 0 from ((if_pos c0).trans rfl))]
    try dsimp only
    exact rx_ri rfl
  · refine rx_ifF rfl (bf c0) rfl ?_
    refine rx_k 1 (9, [(0, .ref (b + 23)), (1, .int a1)], [.ref (b + 23)]) (fun _ _ => rfl) ?_
    refine rx_getf rfl rfl (wg_23 hP) rfl ?_
    refine rx_k 1 (13, [(0, .ref (b + 23)), (1, .int a1)], [.int a1, .ref (b + 24)]) (fun _ _ => rfl) ?_
    refine rx_ild rfl rfl (wg_24 hP) (ar_at (rg_X4_has c0)) ?_
    refine rx_k 1 (18, [(0, .ref (b + 23)), (1, .int a1)], [.int (s 24 a1.toNatClampNeg)]) (fun _ _ => rfl) ?_
    rw [(show (D_X4_size s a1) = (s 24 a1.toNatClampNeg) from ((if_neg c0).trans rfl))]
    try dsimp only
    exact rx_ri rfl
theorem rc_X4_size (hP : WOK b w H0) {s : Sg} {a1 : Int32} : Rc sc 2 44 [.ref (b + 23), .int a1] (wd b w wl H0 s, kn) (some (.int (D_X4_size s a1))) (wd b w wl H0 s, kn) := rx_mc (m_X4_size hP) rfl rfl (Nat.ble_eq_true_of_le (Nat.le_refl _)) (Nat.ble_eq_true_of_le (Nat.le_refl _))
-- LinkHarbour$LibraryTable.needs
noncomputable def D_X4_needs (s : Sg) (a1 : Int32) : Int32 := (if (D_X4_has s a1) = 0 then 0 else (s 25 a1.toNatClampNeg))
theorem m_X4_needs (hP : WOK b w H0) {s : Sg} {a1 : Int32} : Rx sc g_X4_needs 1 ((0, [(0, .ref (b + 23)), (1, .int a1)], [])) (wd b w wl H0 s, kn) (some (.int (D_X4_needs s a1))) (wd b w wl H0 s, kn) := by
  show Rx sc g_X4_needs 1 (0, [(0, .ref (b + 23)), (1, .int a1)], []) (wd b w wl H0 s, kn) (some (.int (D_X4_needs s a1))) (wd b w wl H0 s, kn)
  refine rx_k 2 (2, [(0, .ref (b + 23)), (1, .int a1)], [.int a1, .ref (b + 23)]) (fun _ _ => rfl) ?_
  refine rx_inv rfl rfl (rc_X4_has hP) rfl rfl rfl (q_recv (wg_23 hP)) rfl rfl ?_
  by_cases c0 : (D_X4_has s a1) = 0
  · refine rx_ifT rfl (bt c0) ?_
    refine rx_k 1 (18, [(0, .ref (b + 23)), (1, .int a1)], [.int 0]) (fun _ _ => rfl) ?_
    rw [(show (D_X4_needs s a1) = 0 from ((if_pos c0).trans rfl))]
    try dsimp only
    exact rx_ri rfl
  · refine rx_ifF rfl (bf c0) rfl ?_
    refine rx_k 1 (9, [(0, .ref (b + 23)), (1, .int a1)], [.ref (b + 23)]) (fun _ _ => rfl) ?_
    refine rx_getf rfl rfl (wg_23 hP) rfl ?_
    refine rx_k 1 (13, [(0, .ref (b + 23)), (1, .int a1)], [.int a1, .ref (b + 25)]) (fun _ _ => rfl) ?_
    refine rx_ild rfl rfl (wg_25 hP) (ar_at (rg_X4_has c0)) ?_
    refine rx_k 1 (18, [(0, .ref (b + 23)), (1, .int a1)], [.int (s 25 a1.toNatClampNeg)]) (fun _ _ => rfl) ?_
    rw [(show (D_X4_needs s a1) = (s 25 a1.toNatClampNeg) from ((if_neg c0).trans rfl))]
    try dsimp only
    exact rx_ri rfl
theorem rc_X4_needs (hP : WOK b w H0) {s : Sg} {a1 : Int32} : Rc sc 2 45 [.ref (b + 23), .int a1] (wd b w wl H0 s, kn) (some (.int (D_X4_needs s a1))) (wd b w wl H0 s, kn) := rx_mc (m_X4_needs hP) rfl rfl (Nat.ble_eq_true_of_le (Nat.le_refl _)) (Nat.ble_eq_true_of_le (Nat.le_refl _))
-- LinkHarbour$LibraryTable.exports
noncomputable def D_X4_exports (s : Sg) (a1 : Int32) : Int32 := (if (D_X4_has s a1) = 0 then 0 else (s 26 a1.toNatClampNeg))
theorem m_X4_exports (hP : WOK b w H0) {s : Sg} {a1 : Int32} : Rx sc g_X4_exports 1 ((0, [(0, .ref (b + 23)), (1, .int a1)], [])) (wd b w wl H0 s, kn) (some (.int (D_X4_exports s a1))) (wd b w wl H0 s, kn) := by
  show Rx sc g_X4_exports 1 (0, [(0, .ref (b + 23)), (1, .int a1)], []) (wd b w wl H0 s, kn) (some (.int (D_X4_exports s a1))) (wd b w wl H0 s, kn)
  refine rx_k 2 (2, [(0, .ref (b + 23)), (1, .int a1)], [.int a1, .ref (b + 23)]) (fun _ _ => rfl) ?_
  refine rx_inv rfl rfl (rc_X4_has hP) rfl rfl rfl (q_recv (wg_23 hP)) rfl rfl ?_
  by_cases c0 : (D_X4_has s a1) = 0
  · refine rx_ifT rfl (bt c0) ?_
    refine rx_k 1 (18, [(0, .ref (b + 23)), (1, .int a1)], [.int 0]) (fun _ _ => rfl) ?_
    rw [(show (D_X4_exports s a1) = 0 from ((if_pos c0).trans rfl))]
    try dsimp only
    exact rx_ri rfl
  · refine rx_ifF rfl (bf c0) rfl ?_
    refine rx_k 1 (9, [(0, .ref (b + 23)), (1, .int a1)], [.ref (b + 23)]) (fun _ _ => rfl) ?_
    refine rx_getf rfl rfl (wg_23 hP) rfl ?_
    refine rx_k 1 (13, [(0, .ref (b + 23)), (1, .int a1)], [.int a1, .ref (b + 26)]) (fun _ _ => rfl) ?_
    refine rx_ild rfl rfl (wg_26 hP) (ar_at (rg_X4_has c0)) ?_
    refine rx_k 1 (18, [(0, .ref (b + 23)), (1, .int a1)], [.int (s 26 a1.toNatClampNeg)]) (fun _ _ => rfl) ?_
    rw [(show (D_X4_exports s a1) = (s 26 a1.toNatClampNeg) from ((if_neg c0).trans rfl))]
    try dsimp only
    exact rx_ri rfl
theorem rc_X4_exports (hP : WOK b w H0) {s : Sg} {a1 : Int32} : Rc sc 2 46 [.ref (b + 23), .int a1] (wd b w wl H0 s, kn) (some (.int (D_X4_exports s a1))) (wd b w wl H0 s, kn) := rx_mc (m_X4_exports hP) rfl rfl (Nat.ble_eq_true_of_le (Nat.le_refl _)) (Nat.ble_eq_true_of_le (Nat.le_refl _))
-- LinkHarbour$LibraryTable.imports
noncomputable def D_X4_imports (s : Sg) (a1 : Int32) : Int32 := (if (D_X4_has s a1) = 0 then 0 else (s 27 a1.toNatClampNeg))
theorem m_X4_imports (hP : WOK b w H0) {s : Sg} {a1 : Int32} : Rx sc g_X4_imports 1 ((0, [(0, .ref (b + 23)), (1, .int a1)], [])) (wd b w wl H0 s, kn) (some (.int (D_X4_imports s a1))) (wd b w wl H0 s, kn) := by
  show Rx sc g_X4_imports 1 (0, [(0, .ref (b + 23)), (1, .int a1)], []) (wd b w wl H0 s, kn) (some (.int (D_X4_imports s a1))) (wd b w wl H0 s, kn)
  refine rx_k 2 (2, [(0, .ref (b + 23)), (1, .int a1)], [.int a1, .ref (b + 23)]) (fun _ _ => rfl) ?_
  refine rx_inv rfl rfl (rc_X4_has hP) rfl rfl rfl (q_recv (wg_23 hP)) rfl rfl ?_
  by_cases c0 : (D_X4_has s a1) = 0
  · refine rx_ifT rfl (bt c0) ?_
    refine rx_k 1 (18, [(0, .ref (b + 23)), (1, .int a1)], [.int 0]) (fun _ _ => rfl) ?_
    rw [(show (D_X4_imports s a1) = 0 from ((if_pos c0).trans rfl))]
    try dsimp only
    exact rx_ri rfl
  · refine rx_ifF rfl (bf c0) rfl ?_
    refine rx_k 1 (9, [(0, .ref (b + 23)), (1, .int a1)], [.ref (b + 23)]) (fun _ _ => rfl) ?_
    refine rx_getf rfl rfl (wg_23 hP) rfl ?_
    refine rx_k 1 (13, [(0, .ref (b + 23)), (1, .int a1)], [.int a1, .ref (b + 27)]) (fun _ _ => rfl) ?_
    refine rx_ild rfl rfl (wg_27 hP) (ar_at (rg_X4_has c0)) ?_
    refine rx_k 1 (18, [(0, .ref (b + 23)), (1, .int a1)], [.int (s 27 a1.toNatClampNeg)]) (fun _ _ => rfl) ?_
    rw [(show (D_X4_imports s a1) = (s 27 a1.toNatClampNeg) from ((if_neg c0).trans rfl))]
    try dsimp only
    exact rx_ri rfl
theorem rc_X4_imports (hP : WOK b w H0) {s : Sg} {a1 : Int32} : Rc sc 2 47 [.ref (b + 23), .int a1] (wd b w wl H0 s, kn) (some (.int (D_X4_imports s a1))) (wd b w wl H0 s, kn) := rx_mc (m_X4_imports hP) rfl rfl (Nat.ble_eq_true_of_le (Nat.le_refl _)) (Nat.ble_eq_true_of_le (Nat.le_refl _))
-- LinkHarbour$LibraryTable.opened
noncomputable def D_X4_opened (s : Sg) (a1 : Int32) : Int32 := (if (D_X4_has s a1) = 0 then 0 else (s 29 a1.toNatClampNeg))
theorem m_X4_opened (hP : WOK b w H0) {s : Sg} {a1 : Int32} : Rx sc g_X4_opened 1 ((0, [(0, .ref (b + 23)), (1, .int a1)], [])) (wd b w wl H0 s, kn) (some (.int (D_X4_opened s a1))) (wd b w wl H0 s, kn) := by
  show Rx sc g_X4_opened 1 (0, [(0, .ref (b + 23)), (1, .int a1)], []) (wd b w wl H0 s, kn) (some (.int (D_X4_opened s a1))) (wd b w wl H0 s, kn)
  refine rx_k 2 (2, [(0, .ref (b + 23)), (1, .int a1)], [.int a1, .ref (b + 23)]) (fun _ _ => rfl) ?_
  refine rx_inv rfl rfl (rc_X4_has hP) rfl rfl rfl (q_recv (wg_23 hP)) rfl rfl ?_
  by_cases c0 : (D_X4_has s a1) = 0
  · refine rx_ifT rfl (bt c0) ?_
    refine rx_k 1 (18, [(0, .ref (b + 23)), (1, .int a1)], [.int 0]) (fun _ _ => rfl) ?_
    rw [(show (D_X4_opened s a1) = 0 from ((if_pos c0).trans rfl))]
    try dsimp only
    exact rx_ri rfl
  · refine rx_ifF rfl (bf c0) rfl ?_
    refine rx_k 1 (9, [(0, .ref (b + 23)), (1, .int a1)], [.ref (b + 23)]) (fun _ _ => rfl) ?_
    refine rx_getf rfl rfl (wg_23 hP) rfl ?_
    refine rx_k 1 (13, [(0, .ref (b + 23)), (1, .int a1)], [.int a1, .ref (b + 29)]) (fun _ _ => rfl) ?_
    refine rx_ild rfl rfl (wg_29 hP) (ar_at (rg_X4_has c0)) ?_
    refine rx_k 1 (18, [(0, .ref (b + 23)), (1, .int a1)], [.int (s 29 a1.toNatClampNeg)]) (fun _ _ => rfl) ?_
    rw [(show (D_X4_opened s a1) = (s 29 a1.toNatClampNeg) from ((if_neg c0).trans rfl))]
    try dsimp only
    exact rx_ri rfl
theorem rc_X4_opened (hP : WOK b w H0) {s : Sg} {a1 : Int32} : Rc sc 2 48 [.ref (b + 23), .int a1] (wd b w wl H0 s, kn) (some (.int (D_X4_opened s a1))) (wd b w wl H0 s, kn) := rx_mc (m_X4_opened hP) rfl rfl (Nat.ble_eq_true_of_le (Nat.le_refl _)) (Nat.ble_eq_true_of_le (Nat.le_refl _))
-- LinkHarbour$LibraryTable.base
noncomputable def D_X4_base (s : Sg) (a1 : Int32) : Int32 := (if (D_X4_has s a1) = 0 then (-1) else (s 30 a1.toNatClampNeg))
theorem m_X4_base (hP : WOK b w H0) {s : Sg} {a1 : Int32} : Rx sc g_X4_base 1 ((0, [(0, .ref (b + 23)), (1, .int a1)], [])) (wd b w wl H0 s, kn) (some (.int (D_X4_base s a1))) (wd b w wl H0 s, kn) := by
  show Rx sc g_X4_base 1 (0, [(0, .ref (b + 23)), (1, .int a1)], []) (wd b w wl H0 s, kn) (some (.int (D_X4_base s a1))) (wd b w wl H0 s, kn)
  refine rx_k 2 (2, [(0, .ref (b + 23)), (1, .int a1)], [.int a1, .ref (b + 23)]) (fun _ _ => rfl) ?_
  refine rx_inv rfl rfl (rc_X4_has hP) rfl rfl rfl (q_recv (wg_23 hP)) rfl rfl ?_
  by_cases c0 : (D_X4_has s a1) = 0
  · refine rx_ifT rfl (bt c0) ?_
    refine rx_k 1 (18, [(0, .ref (b + 23)), (1, .int a1)], [.int (-1)]) (fun _ _ => rfl) ?_
    rw [(show (D_X4_base s a1) = (-1) from ((if_pos c0).trans rfl))]
    try dsimp only
    exact rx_ri rfl
  · refine rx_ifF rfl (bf c0) rfl ?_
    refine rx_k 1 (9, [(0, .ref (b + 23)), (1, .int a1)], [.ref (b + 23)]) (fun _ _ => rfl) ?_
    refine rx_getf rfl rfl (wg_23 hP) rfl ?_
    refine rx_k 1 (13, [(0, .ref (b + 23)), (1, .int a1)], [.int a1, .ref (b + 30)]) (fun _ _ => rfl) ?_
    refine rx_ild rfl rfl (wg_30 hP) (ar_at (rg_X4_has c0)) ?_
    refine rx_k 1 (18, [(0, .ref (b + 23)), (1, .int a1)], [.int (s 30 a1.toNatClampNeg)]) (fun _ _ => rfl) ?_
    rw [(show (D_X4_base s a1) = (s 30 a1.toNatClampNeg) from ((if_neg c0).trans rfl))]
    try dsimp only
    exact rx_ri rfl
theorem rc_X4_base (hP : WOK b w H0) {s : Sg} {a1 : Int32} : Rc sc 2 49 [.ref (b + 23), .int a1] (wd b w wl H0 s, kn) (some (.int (D_X4_base s a1))) (wd b w wl H0 s, kn) := rx_mc (m_X4_base hP) rfl rfl (Nat.ble_eq_true_of_le (Nat.le_refl _)) (Nat.ble_eq_true_of_le (Nat.le_refl _))
end DD
