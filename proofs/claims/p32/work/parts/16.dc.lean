section DD
variable {sc : Nat × (Nat → Int32)} {b w wl : Nat} {H0 : List EC} {kn : Nat × Nat}
-- LinkHarbour$SectionTable.kind
noncomputable def D_X8_kind (s : Sg) (a1 : Int32) (a2 : Int32) : Int32 := (if (D_X8_hasPiece s a1 a2) = 0 then 0 else (s 16 ((a1 * 8) + a2).toNatClampNeg))
theorem m_X8_kind (hP : WOK b w H0) {s : Sg} {a1 : Int32} {a2 : Int32} : Rx sc g_X8_kind 1 ((0, [(0, .ref (b + 11)), (1, .int a1), (2, .int a2)], [])) (wd b w wl H0 s, kn) (some (.int (D_X8_kind s a1 a2))) (wd b w wl H0 s, kn) := by
  show Rx sc g_X8_kind 1 (0, [(0, .ref (b + 11)), (1, .int a1), (2, .int a2)], []) (wd b w wl H0 s, kn) (some (.int (D_X8_kind s a1 a2))) (wd b w wl H0 s, kn)
  refine rx_k 3 (3, [(0, .ref (b + 11)), (1, .int a1), (2, .int a2)], [.int a2, .int a1, .ref (b + 11)]) (fun _ _ => rfl) ?_
  refine rx_inv rfl rfl (rc_X8_hasPiece hP) rfl rfl rfl (q_recv (wg_11 hP)) rfl rfl ?_
  by_cases c0 : (D_X8_hasPiece s a1 a2) = 0
  · refine rx_ifT rfl (bt c0) ?_
    refine rx_k 1 (24, [(0, .ref (b + 11)), (1, .int a1), (2, .int a2)], [.int 0]) (fun _ _ => rfl) ?_
    rw [(show (D_X8_kind s a1 a2) = 0 from ((if_pos c0).trans rfl))]
    exact rx_ri rfl
  · refine rx_ifF rfl (bf c0) rfl ?_
    refine rx_k 1 (10, [(0, .ref (b + 11)), (1, .int a1), (2, .int a2)], [.ref (b + 11)]) (fun _ _ => rfl) ?_
    refine rx_getf rfl rfl (wg_11 hP) rfl ?_
    refine rx_k 5 (19, [(0, .ref (b + 11)), (1, .int a1), (2, .int a2)], [.int ((a1 * 8) + a2), .ref (b + 16)]) (fun _ _ => rfl) ?_
    refine rx_ild rfl rfl (wg_16 hP) (ar_at (i_mul_add 8 8 rfl (rg_X8_hasPiece1 c0) (rg_X8_hasPiece2 c0) (by decide) (by decide))) ?_
    refine rx_k 1 (24, [(0, .ref (b + 11)), (1, .int a1), (2, .int a2)], [.int (s 16 ((a1 * 8) + a2).toNatClampNeg)]) (fun _ _ => rfl) ?_
    rw [(show (D_X8_kind s a1 a2) = (s 16 ((a1 * 8) + a2).toNatClampNeg) from ((if_neg c0).trans rfl))]
    exact rx_ri rfl
theorem rc_X8_kind (hP : WOK b w H0) {s : Sg} {a1 : Int32} {a2 : Int32} : Rc sc 2 129 [.ref (b + 11), .int a1, .int a2] (wd b w wl H0 s, kn) (some (.int (D_X8_kind s a1 a2))) (wd b w wl H0 s, kn) := rx_mc (m_X8_kind hP) rfl rfl (Nat.ble_eq_true_of_le (Nat.le_refl _)) (Nat.ble_eq_true_of_le (Nat.le_refl _))
-- LinkHarbour$SectionTable.name
noncomputable def D_X8_name (s : Sg) (a1 : Int32) (a2 : Int32) : Int32 := (if (D_X8_hasPiece s a1 a2) = 0 then (-1) else (s 17 ((a1 * 8) + a2).toNatClampNeg))
theorem m_X8_name (hP : WOK b w H0) {s : Sg} {a1 : Int32} {a2 : Int32} : Rx sc g_X8_name 1 ((0, [(0, .ref (b + 11)), (1, .int a1), (2, .int a2)], [])) (wd b w wl H0 s, kn) (some (.int (D_X8_name s a1 a2))) (wd b w wl H0 s, kn) := by
  show Rx sc g_X8_name 1 (0, [(0, .ref (b + 11)), (1, .int a1), (2, .int a2)], []) (wd b w wl H0 s, kn) (some (.int (D_X8_name s a1 a2))) (wd b w wl H0 s, kn)
  refine rx_k 3 (3, [(0, .ref (b + 11)), (1, .int a1), (2, .int a2)], [.int a2, .int a1, .ref (b + 11)]) (fun _ _ => rfl) ?_
  refine rx_inv rfl rfl (rc_X8_hasPiece hP) rfl rfl rfl (q_recv (wg_11 hP)) rfl rfl ?_
  by_cases c0 : (D_X8_hasPiece s a1 a2) = 0
  · refine rx_ifT rfl (bt c0) ?_
    refine rx_k 1 (24, [(0, .ref (b + 11)), (1, .int a1), (2, .int a2)], [.int (-1)]) (fun _ _ => rfl) ?_
    rw [(show (D_X8_name s a1 a2) = (-1) from ((if_pos c0).trans rfl))]
    exact rx_ri rfl
  · refine rx_ifF rfl (bf c0) rfl ?_
    refine rx_k 1 (10, [(0, .ref (b + 11)), (1, .int a1), (2, .int a2)], [.ref (b + 11)]) (fun _ _ => rfl) ?_
    refine rx_getf rfl rfl (wg_11 hP) rfl ?_
    refine rx_k 5 (19, [(0, .ref (b + 11)), (1, .int a1), (2, .int a2)], [.int ((a1 * 8) + a2), .ref (b + 17)]) (fun _ _ => rfl) ?_
    refine rx_ild rfl rfl (wg_17 hP) (ar_at (i_mul_add 8 8 rfl (rg_X8_hasPiece1 c0) (rg_X8_hasPiece2 c0) (by decide) (by decide))) ?_
    refine rx_k 1 (24, [(0, .ref (b + 11)), (1, .int a1), (2, .int a2)], [.int (s 17 ((a1 * 8) + a2).toNatClampNeg)]) (fun _ _ => rfl) ?_
    rw [(show (D_X8_name s a1 a2) = (s 17 ((a1 * 8) + a2).toNatClampNeg) from ((if_neg c0).trans rfl))]
    exact rx_ri rfl
theorem rc_X8_name (hP : WOK b w H0) {s : Sg} {a1 : Int32} {a2 : Int32} : Rc sc 2 132 [.ref (b + 11), .int a1, .int a2] (wd b w wl H0 s, kn) (some (.int (D_X8_name s a1 a2))) (wd b w wl H0 s, kn) := rx_mc (m_X8_name hP) rfl rfl (Nat.ble_eq_true_of_le (Nat.le_refl _)) (Nat.ble_eq_true_of_le (Nat.le_refl _))
-- java/lang/Math.abs
noncomputable def D_J9_abs_0f7a4 (a0 : Int32) : Int32 := (if 0 ≤ a0 then a0 else (-a0))
set_option maxRecDepth 100000 in
theorem m_J9_abs_0f7a4 {hh : EH} {a0 : Int32} : Rx sc g_J9_abs_0f7a4 0 ((0, [(0, .int a0)], [])) hh (some (.int (D_J9_abs_0f7a4 a0))) hh := by
  show Rx sc g_J9_abs_0f7a4 0 (0, [(0, .int a0)], []) hh (some (.int (D_J9_abs_0f7a4 a0))) hh
  refine rx_k 1 (1, [(0, .int a0)], [.int a0]) (fun _ _ => rfl) ?_
  by_cases c0 : 0 ≤ a0
  · refine rx_ifT rfl (bt c0) ?_
    refine rx_k 1 (10, [(0, .int a0)], [.int a0]) (fun _ _ => rfl) ?_
    rw [(show (D_J9_abs_0f7a4 a0) = a0 from ((if_pos c0).trans rfl))]
    exact rx_ri rfl
  · refine rx_ifF rfl (bf c0) rfl ?_
    refine rx_k 3 (10, [(0, .int a0)], [.int (-a0)]) (fun _ _ => rfl) ?_
    rw [(show (D_J9_abs_0f7a4 a0) = (-a0) from ((if_neg c0).trans rfl))]
    exact rx_ri rfl
theorem rc_J9_abs_0f7a4 {hh : EH} {a0 : Int32} : Rc sc 1 210 [.int a0] hh (some (.int (D_J9_abs_0f7a4 a0))) hh := rx_mc (m_J9_abs_0f7a4) rfl rfl (Nat.ble_eq_true_of_le (Nat.le_refl _)) (Nat.ble_eq_true_of_le (Nat.le_refl _))
-- LinkHarbour$Layout.lengthenIn
def fr_X3_lengthenIn_24 (b w : Nat) (q : Nat) (a1 : Int32) (a2 : Int32) (x5 : Int32) (x3 : Int32) (x4 : Int32) : EF := (24, [(0, .ref (b + (q + 15))), (1, .int a1), (2, .int a2), (3, .int x3), (4, .int x4), (5, .int x5)], [])
def fe_X3_lengthenIn_24 (b w : Nat) (q : Nat) (a1 : Int32) (a2 : Int32) (x5 : Int32) (x3 : Int32) (x4 : Int32) : EF := (139, [(3, .int x3)], [])
noncomputable def B_X3_lengthenIn_24 (q : Nat) (a1 : Int32) (a2 : Int32) (x5 : Int32) (x3 : Int32) (x4 : Int32) (s : Sg) : Bool × (Int32 × Int32 × Int32 × Sg) := (if 8 ≤ x5 then (false, (x5, x3, x4, s)) else (if (D_X8_kind s a1 x5) = 2 then (if (s (q + 20) ((a1 * 8) + x5).toNatClampNeg) = 2 then (if (D_J9_abs_0f7a4 ((x4 + (s (q + 20) ((a1 * 8) + x5).toNatClampNeg)) - (D_X3_standsFor q s (D_X8_name s a1 x5)))) ≤ a2 then (true, ((x5 + 1), x3, (x4 + (s (q + 20) ((a1 * 8) + x5).toNatClampNeg)), s)) else (true, ((x5 + 1), 1, (x4 + (s (q + 20) ((a1 * 8) + x5).toNatClampNeg)), (up (up s (q + 20) ((a1 * 8) + x5).toNatClampNeg 5) (q + 19) a1.toNatClampNeg ((s (q + 19) a1.toNatClampNeg) + 1))))) else (true, ((x5 + 1), x3, (x4 + (s (q + 20) ((a1 * 8) + x5).toNatClampNeg)), s))) else (true, ((x5 + 1), x3, (x4 + (s (q + 20) ((a1 * 8) + x5).toNatClampNeg)), s))))
theorem b_X3_lengthenIn_24 (hP : WOK b w H0) {q : Nat} (hq : q = 38 ∨ q = 60) {s : Sg} {a1 : Int32} {a2 : Int32} {x5 : Int32} {x3 : Int32} {x4 : Int32} (h1 : rg a1 24) (o : Option Value) (h' : EH) (hN : NN s) (hv : 0 ≤ x5.toInt) (hc : ∀ (t5 : Int32) (t3 : Int32) (t4 : Int32) (ts : Sg), (B_X3_lengthenIn_24 q a1 a2 x5 x3 x4 s) = (true, (t5, t3, t4, ts)) → x5.toInt < 2147483647 → t5 = x5 + 1 → Rx sc g_X3_lengthenIn 2 (fr_X3_lengthenIn_24 b w q a1 a2 t5 t3 t4) (wd b w wl H0 ts, kn) o h') (he : ∀ (t5 : Int32) (t3 : Int32) (t4 : Int32) (ts : Sg), (B_X3_lengthenIn_24 q a1 a2 x5 x3 x4 s) = (false, (t5, t3, t4, ts)) → Rx sc g_X3_lengthenIn 2 (fe_X3_lengthenIn_24 b w q a1 a2 t5 t3 t4) (wd b w wl H0 ts, kn) o h') : Rx sc g_X3_lengthenIn 2 (fr_X3_lengthenIn_24 b w q a1 a2 x5 x3 x4) (wd b w wl H0 s, kn) o h' := by
  show Rx sc g_X3_lengthenIn 2 (24, [(0, .ref (b + (q + 15))), (1, .int a1), (2, .int a2), (3, .int x3), (4, .int x4), (5, .int x5)], []) (wd b w wl H0 s, kn) o h'
  refine rx_k 2 (28, [(0, .ref (b + (q + 15))), (1, .int a1), (2, .int a2), (3, .int x3), (4, .int x4), (5, .int x5)], [.int 8, .int x5]) (fun _ _ => rfl) ?_
  by_cases c0 : 8 ≤ x5
  · refine rx_icT rfl (bt c0) ?_
    exact rx_lo am_X3_lengthenIn (lo := [(3, .int x3)]) (List.forall_mem_cons.mpr ⟨List.mem_of_getElem? (i := 3) rfl, (fun _ h => absurd h List.not_mem_nil)⟩) rfl (he _ _ _ _ (show (B_X3_lengthenIn_24 q a1 a2 x5 x3 x4 s) = (false, (x5, x3, x4, s)) from ((if_pos c0).trans rfl)))
  · refine rx_icF rfl (bf c0) rfl ?_
    refine rx_k 8 (43, [(6, .int ((a1 * 8) + x5)), (0, .ref (b + (q + 15))), (1, .int a1), (2, .int a2), (3, .int x3), (4, .int x4), (5, .int x5)], [.ref (b + (q + 15)), .int x4]) (fun _ _ => rfl) ?_
    refine rx_getf rfl rfl (wl_15 hP hq) rfl ?_
    refine rx_k 1 (48, [(6, .int ((a1 * 8) + x5)), (0, .ref (b + (q + 15))), (1, .int a1), (2, .int a2), (3, .int x3), (4, .int x4), (5, .int x5)], [.int ((a1 * 8) + x5), .ref (b + (q + 20)), .int x4]) (fun _ _ => rfl) ?_
    refine rx_ild rfl rfl (wl_20 hP hq) (ar_at (i_mul_add 8 8 rfl h1 (rg_c hv c0 (m := 8) (n := 8) rfl) (by decide) (by decide))) ?_
    refine rx_k 3 (53, [(4, .int (x4 + (s (q + 20) ((a1 * 8) + x5).toNatClampNeg))), (6, .int ((a1 * 8) + x5)), (0, .ref (b + (q + 15))), (1, .int a1), (2, .int a2), (3, .int x3), (5, .int x5)], [.ref (b + (q + 15))]) (fun _ _ => rfl) ?_
    refine rx_getf rfl rfl (wl_15 hP hq) rfl ?_
    refine rx_k 2 (59, [(4, .int (x4 + (s (q + 20) ((a1 * 8) + x5).toNatClampNeg))), (6, .int ((a1 * 8) + x5)), (0, .ref (b + (q + 15))), (1, .int a1), (2, .int a2), (3, .int x3), (5, .int x5)], [.int x5, .int a1, .ref (b + 11)]) (fun _ _ => rfl) ?_
    refine rx_inv rfl rfl (rc_X8_kind hP) rfl rfl rfl (q_recv (wg_11 hP)) rfl rfl ?_
    refine rx_k 1 (63, [(4, .int (x4 + (s (q + 20) ((a1 * 8) + x5).toNatClampNeg))), (6, .int ((a1 * 8) + x5)), (0, .ref (b + (q + 15))), (1, .int a1), (2, .int a2), (3, .int x3), (5, .int x5)], [.int 2, .int (D_X8_kind s a1 x5)]) (fun _ _ => rfl) ?_
    by_cases c1 : (D_X8_kind s a1 x5) = 2
    · refine rx_icF rfl (nf c1) rfl ?_
      refine rx_k 1 (67, [(4, .int (x4 + (s (q + 20) ((a1 * 8) + x5).toNatClampNeg))), (6, .int ((a1 * 8) + x5)), (0, .ref (b + (q + 15))), (1, .int a1), (2, .int a2), (3, .int x3), (5, .int x5)], [.ref (b + (q + 15))]) (fun _ _ => rfl) ?_
      refine rx_getf rfl rfl (wl_15 hP hq) rfl ?_
      refine rx_k 1 (72, [(4, .int (x4 + (s (q + 20) ((a1 * 8) + x5).toNatClampNeg))), (6, .int ((a1 * 8) + x5)), (0, .ref (b + (q + 15))), (1, .int a1), (2, .int a2), (3, .int x3), (5, .int x5)], [.int ((a1 * 8) + x5), .ref (b + (q + 20))]) (fun _ _ => rfl) ?_
      refine rx_ild rfl rfl (wl_20 hP hq) (ar_at (i_mul_add 8 8 rfl h1 (rg_c hv c0 (m := 8) (n := 8) rfl) (by decide) (by decide))) ?_
      refine rx_k 1 (74, [(4, .int (x4 + (s (q + 20) ((a1 * 8) + x5).toNatClampNeg))), (6, .int ((a1 * 8) + x5)), (0, .ref (b + (q + 15))), (1, .int a1), (2, .int a2), (3, .int x3), (5, .int x5)], [.int 2, .int (s (q + 20) ((a1 * 8) + x5).toNatClampNeg)]) (fun _ _ => rfl) ?_
      by_cases c2 : (s (q + 20) ((a1 * 8) + x5).toNatClampNeg) = 2
      · refine rx_icF rfl (nf c2) rfl ?_
        refine rx_k 4 (86, [(7, .int 1), (4, .int (x4 + (s (q + 20) ((a1 * 8) + x5).toNatClampNeg))), (6, .int ((a1 * 8) + x5)), (0, .ref (b + (q + 15))), (1, .int a1), (2, .int a2), (3, .int x3), (5, .int x5)], [.int 1]) (fun _ _ => rfl) ?_
        refine rx_ifF rfl (by decide) rfl ?_
        refine rx_k 3 (93, [(7, .int 1), (4, .int (x4 + (s (q + 20) ((a1 * 8) + x5).toNatClampNeg))), (6, .int ((a1 * 8) + x5)), (0, .ref (b + (q + 15))), (1, .int a1), (2, .int a2), (3, .int x3), (5, .int x5)], [.ref (b + (q + 15)), .ref (b + (q + 15)), .int (x4 + (s (q + 20) ((a1 * 8) + x5).toNatClampNeg))]) (fun _ _ => rfl) ?_
        refine rx_getf rfl rfl (wl_15 hP hq) rfl ?_
        refine rx_k 2 (99, [(7, .int 1), (4, .int (x4 + (s (q + 20) ((a1 * 8) + x5).toNatClampNeg))), (6, .int ((a1 * 8) + x5)), (0, .ref (b + (q + 15))), (1, .int a1), (2, .int a2), (3, .int x3), (5, .int x5)], [.int x5, .int a1, .ref (b + 11), .ref (b + (q + 15)), .int (x4 + (s (q + 20) ((a1 * 8) + x5).toNatClampNeg))]) (fun _ _ => rfl) ?_
        refine rx_inv rfl rfl (rc_X8_name hP) rfl rfl rfl (q_recv (wg_11 hP)) rfl rfl ?_
        refine rx_inv rfl rfl (rc_X3_standsFor hP hq) rfl rfl rfl (q_recv (wl_15 hP hq)) rfl rfl ?_
        refine rx_k 1 (106, [(7, .int 1), (4, .int (x4 + (s (q + 20) ((a1 * 8) + x5).toNatClampNeg))), (6, .int ((a1 * 8) + x5)), (0, .ref (b + (q + 15))), (1, .int a1), (2, .int a2), (3, .int x3), (5, .int x5)], [.int ((x4 + (s (q + 20) ((a1 * 8) + x5).toNatClampNeg)) - (D_X3_standsFor q s (D_X8_name s a1 x5)))]) (fun _ _ => rfl) ?_
        refine rx_inv rfl rfl (rc_J9_abs_0f7a4) rfl rfl rfl rfl rfl rfl ?_
        refine rx_k 1 (110, [(7, .int 1), (4, .int (x4 + (s (q + 20) ((a1 * 8) + x5).toNatClampNeg))), (6, .int ((a1 * 8) + x5)), (0, .ref (b + (q + 15))), (1, .int a1), (2, .int a2), (3, .int x3), (5, .int x5)], [.int a2, .int (D_J9_abs_0f7a4 ((x4 + (s (q + 20) ((a1 * 8) + x5).toNatClampNeg)) - (D_X3_standsFor q s (D_X8_name s a1 x5))))]) (fun _ _ => rfl) ?_
        by_cases c3 : (D_J9_abs_0f7a4 ((x4 + (s (q + 20) ((a1 * 8) + x5).toNatClampNeg)) - (D_X3_standsFor q s (D_X8_name s a1 x5)))) ≤ a2
        · refine rx_icT rfl (bt c3) ?_
          refine rx_k 2 (24, [(5, .int (x5 + 1)), (7, .int 1), (4, .int (x4 + (s (q + 20) ((a1 * 8) + x5).toNatClampNeg))), (6, .int ((a1 * 8) + x5)), (0, .ref (b + (q + 15))), (1, .int a1), (2, .int a2), (3, .int x3)], []) (fun _ _ => rfl) ?_
          refine rx_lo am_X3_lengthenIn (lo := [(0, .ref (b + (q + 15))), (1, .int a1), (2, .int a2), (3, .int x3), (4, .int (x4 + (s (q + 20) ((a1 * 8) + x5).toNatClampNeg))), (5, .int (x5 + 1))]) (List.forall_mem_cons.mpr ⟨List.mem_of_getElem? (i := 4) rfl, (List.forall_mem_cons.mpr ⟨List.mem_of_getElem? (i := 5) rfl, (List.forall_mem_cons.mpr ⟨List.mem_of_getElem? (i := 6) rfl, (List.forall_mem_cons.mpr ⟨List.mem_of_getElem? (i := 7) rfl, (List.forall_mem_cons.mpr ⟨List.mem_of_getElem? (i := 2) rfl, (List.forall_mem_cons.mpr ⟨List.mem_of_getElem? (i := 0) rfl, (fun _ h => absurd h List.not_mem_nil)⟩)⟩)⟩)⟩)⟩)⟩) rfl (hc _ _ _ _ (show (B_X3_lengthenIn_24 q a1 a2 x5 x3 x4 s) = (true, ((x5 + 1), x3, (x4 + (s (q + 20) ((a1 * 8) + x5).toNatClampNeg)), s)) from ((if_neg c0).trans ((if_pos c1).trans ((if_pos c2).trans ((if_pos c3).trans rfl))))) (lt_nle c0) rfl)
        · refine rx_icF rfl (bf c3) rfl ?_
          refine rx_k 1 (114, [(7, .int 1), (4, .int (x4 + (s (q + 20) ((a1 * 8) + x5).toNatClampNeg))), (6, .int ((a1 * 8) + x5)), (0, .ref (b + (q + 15))), (1, .int a1), (2, .int a2), (3, .int x3), (5, .int x5)], [.ref (b + (q + 15))]) (fun _ _ => rfl) ?_
          refine rx_getf rfl rfl (wl_15 hP hq) rfl ?_
          refine rx_k 2 (120, [(7, .int 1), (4, .int (x4 + (s (q + 20) ((a1 * 8) + x5).toNatClampNeg))), (6, .int ((a1 * 8) + x5)), (0, .ref (b + (q + 15))), (1, .int a1), (2, .int a2), (3, .int x3), (5, .int x5)], [.int 5, .int ((a1 * 8) + x5), .ref (b + (q + 20))]) (fun _ _ => rfl) ?_
          refine rx_ist rfl rfl (wl_20 hP hq) rfl (ar_at (i_mul_add 8 8 rfl h1 (rg_c hv c0 (m := 8) (n := 8) rfl) (by decide) (by decide))) (wz_20 hP hq (i_mul_add 8 8 rfl h1 (rg_c hv c0 (m := 8) (n := 8) rfl) (by decide) (by decide))) ?_
          refine rx_k 1 (122, [(7, .int 1), (4, .int (x4 + (s (q + 20) ((a1 * 8) + x5).toNatClampNeg))), (6, .int ((a1 * 8) + x5)), (0, .ref (b + (q + 15))), (1, .int a1), (2, .int a2), (3, .int x3), (5, .int x5)], [.ref (b + (q + 15))]) (fun _ _ => rfl) ?_
          refine rx_getf rfl rfl (wl_15 hP hq) rfl ?_
          refine rx_k 2 (127, [(7, .int 1), (4, .int (x4 + (s (q + 20) ((a1 * 8) + x5).toNatClampNeg))), (6, .int ((a1 * 8) + x5)), (0, .ref (b + (q + 15))), (1, .int a1), (2, .int a2), (3, .int x3), (5, .int x5)], [.int a1, .ref (b + (q + 19)), .int a1, .ref (b + (q + 19))]) (fun _ _ => rfl) ?_
          refine rx_ild (x := (s (q + 19) a1.toNatClampNeg)) rfl rfl (wl_19 hP hq) ((ar_at h1).trans (congrArg (fun z => some (Value.int z)) (rd_nk (by omega)))) ?_
          refine rx_k 2 (130, [(7, .int 1), (4, .int (x4 + (s (q + 20) ((a1 * 8) + x5).toNatClampNeg))), (6, .int ((a1 * 8) + x5)), (0, .ref (b + (q + 15))), (1, .int a1), (2, .int a2), (3, .int x3), (5, .int x5)], [.int ((s (q + 19) a1.toNatClampNeg) + 1), .int a1, .ref (b + (q + 19))]) (fun _ _ => rfl) ?_
          refine rx_ist rfl rfl (wl_19 hP hq) rfl (ar_at h1) (wz_19 hP hq h1) ?_
          refine rx_k 4 (24, [(5, .int (x5 + 1)), (3, .int 1), (7, .int 1), (4, .int (x4 + (s (q + 20) ((a1 * 8) + x5).toNatClampNeg))), (6, .int ((a1 * 8) + x5)), (0, .ref (b + (q + 15))), (1, .int a1), (2, .int a2)], []) (fun _ _ => rfl) ?_
          refine rx_lo am_X3_lengthenIn (lo := [(0, .ref (b + (q + 15))), (1, .int a1), (2, .int a2), (3, .int 1), (4, .int (x4 + (s (q + 20) ((a1 * 8) + x5).toNatClampNeg))), (5, .int (x5 + 1))]) (List.forall_mem_cons.mpr ⟨List.mem_of_getElem? (i := 5) rfl, (List.forall_mem_cons.mpr ⟨List.mem_of_getElem? (i := 6) rfl, (List.forall_mem_cons.mpr ⟨List.mem_of_getElem? (i := 7) rfl, (List.forall_mem_cons.mpr ⟨List.mem_of_getElem? (i := 1) rfl, (List.forall_mem_cons.mpr ⟨List.mem_of_getElem? (i := 3) rfl, (List.forall_mem_cons.mpr ⟨List.mem_of_getElem? (i := 0) rfl, (fun _ h => absurd h List.not_mem_nil)⟩)⟩)⟩)⟩)⟩)⟩) rfl (hc _ _ _ _ (show (B_X3_lengthenIn_24 q a1 a2 x5 x3 x4 s) = (true, ((x5 + 1), 1, (x4 + (s (q + 20) ((a1 * 8) + x5).toNatClampNeg)), (up (up s (q + 20) ((a1 * 8) + x5).toNatClampNeg 5) (q + 19) a1.toNatClampNeg ((s (q + 19) a1.toNatClampNeg) + 1)))) from ((if_neg c0).trans ((if_pos c1).trans ((if_pos c2).trans ((if_neg c3).trans rfl))))) (lt_nle c0) rfl)
      · refine rx_icT rfl (nt c2) ?_
        refine rx_k 3 (86, [(7, .int 0), (4, .int (x4 + (s (q + 20) ((a1 * 8) + x5).toNatClampNeg))), (6, .int ((a1 * 8) + x5)), (0, .ref (b + (q + 15))), (1, .int a1), (2, .int a2), (3, .int x3), (5, .int x5)], [.int 0]) (fun _ _ => rfl) ?_
        refine rx_ifT rfl (by decide) ?_
        refine rx_k 2 (24, [(5, .int (x5 + 1)), (7, .int 0), (4, .int (x4 + (s (q + 20) ((a1 * 8) + x5).toNatClampNeg))), (6, .int ((a1 * 8) + x5)), (0, .ref (b + (q + 15))), (1, .int a1), (2, .int a2), (3, .int x3)], []) (fun _ _ => rfl) ?_
        refine rx_lo am_X3_lengthenIn (lo := [(0, .ref (b + (q + 15))), (1, .int a1), (2, .int a2), (3, .int x3), (4, .int (x4 + (s (q + 20) ((a1 * 8) + x5).toNatClampNeg))), (5, .int (x5 + 1))]) (List.forall_mem_cons.mpr ⟨List.mem_of_getElem? (i := 4) rfl, (List.forall_mem_cons.mpr ⟨List.mem_of_getElem? (i := 5) rfl, (List.forall_mem_cons.mpr ⟨List.mem_of_getElem? (i := 6) rfl, (List.forall_mem_cons.mpr ⟨List.mem_of_getElem? (i := 7) rfl, (List.forall_mem_cons.mpr ⟨List.mem_of_getElem? (i := 2) rfl, (List.forall_mem_cons.mpr ⟨List.mem_of_getElem? (i := 0) rfl, (fun _ h => absurd h List.not_mem_nil)⟩)⟩)⟩)⟩)⟩)⟩) rfl (hc _ _ _ _ (show (B_X3_lengthenIn_24 q a1 a2 x5 x3 x4 s) = (true, ((x5 + 1), x3, (x4 + (s (q + 20) ((a1 * 8) + x5).toNatClampNeg)), s)) from ((if_neg c0).trans ((if_pos c1).trans ((if_neg c2).trans rfl)))) (lt_nle c0) rfl)
    · refine rx_icT rfl (nt c1) ?_
      refine rx_k 3 (86, [(7, .int 0), (4, .int (x4 + (s (q + 20) ((a1 * 8) + x5).toNatClampNeg))), (6, .int ((a1 * 8) + x5)), (0, .ref (b + (q + 15))), (1, .int a1), (2, .int a2), (3, .int x3), (5, .int x5)], [.int 0]) (fun _ _ => rfl) ?_
      refine rx_ifT rfl (by decide) ?_
      refine rx_k 2 (24, [(5, .int (x5 + 1)), (7, .int 0), (4, .int (x4 + (s (q + 20) ((a1 * 8) + x5).toNatClampNeg))), (6, .int ((a1 * 8) + x5)), (0, .ref (b + (q + 15))), (1, .int a1), (2, .int a2), (3, .int x3)], []) (fun _ _ => rfl) ?_
      refine rx_lo am_X3_lengthenIn (lo := [(0, .ref (b + (q + 15))), (1, .int a1), (2, .int a2), (3, .int x3), (4, .int (x4 + (s (q + 20) ((a1 * 8) + x5).toNatClampNeg))), (5, .int (x5 + 1))]) (List.forall_mem_cons.mpr ⟨List.mem_of_getElem? (i := 4) rfl, (List.forall_mem_cons.mpr ⟨List.mem_of_getElem? (i := 5) rfl, (List.forall_mem_cons.mpr ⟨List.mem_of_getElem? (i := 6) rfl, (List.forall_mem_cons.mpr ⟨List.mem_of_getElem? (i := 7) rfl, (List.forall_mem_cons.mpr ⟨List.mem_of_getElem? (i := 2) rfl, (List.forall_mem_cons.mpr ⟨List.mem_of_getElem? (i := 0) rfl, (fun _ h => absurd h List.not_mem_nil)⟩)⟩)⟩)⟩)⟩)⟩) rfl (hc _ _ _ _ (show (B_X3_lengthenIn_24 q a1 a2 x5 x3 x4 s) = (true, ((x5 + 1), x3, (x4 + (s (q + 20) ((a1 * 8) + x5).toNatClampNeg)), s)) from ((if_neg c0).trans ((if_neg c1).trans rfl))) (lt_nle c0) rfl)
theorem nb_X3_lengthenIn_24 {q : Nat} (hq : q = 38 ∨ q = 60) {a1 : Int32} {a2 : Int32} {x5 : Int32} {x3 : Int32} {x4 : Int32} {s : Sg} (hN : NN s) : ∃ (f : Bool) (t5 : Int32) (t3 : Int32) (t4 : Int32) (ts : Sg), (B_X3_lengthenIn_24 q a1 a2 x5 x3 x4 s) = (f, (t5, t3, t4, ts)) ∧ NN ts := by
  by_cases c0 : 8 ≤ x5
  · exact ⟨_, _, _, _, _, (show (B_X3_lengthenIn_24 q a1 a2 x5 x3 x4 s) = (false, (x5, x3, x4, s)) from ((if_pos c0).trans rfl)), hN⟩
  · by_cases c1 : (D_X8_kind s a1 x5) = 2
    · by_cases c2 : (s (q + 20) ((a1 * 8) + x5).toNatClampNeg) = 2
      · by_cases c3 : (D_J9_abs_0f7a4 ((x4 + (s (q + 20) ((a1 * 8) + x5).toNatClampNeg)) - (D_X3_standsFor q s (D_X8_name s a1 x5)))) ≤ a2
        · exact ⟨_, _, _, _, _, (show (B_X3_lengthenIn_24 q a1 a2 x5 x3 x4 s) = (true, ((x5 + 1), x3, (x4 + (s (q + 20) ((a1 * 8) + x5).toNatClampNeg)), s)) from ((if_neg c0).trans ((if_pos c1).trans ((if_pos c2).trans ((if_pos c3).trans rfl))))), hN⟩
        · exact ⟨_, _, _, _, _, (show (B_X3_lengthenIn_24 q a1 a2 x5 x3 x4 s) = (true, ((x5 + 1), 1, (x4 + (s (q + 20) ((a1 * 8) + x5).toNatClampNeg)), (up (up s (q + 20) ((a1 * 8) + x5).toNatClampNeg 5) (q + 19) a1.toNatClampNeg ((s (q + 19) a1.toNatClampNeg) + 1)))) from ((if_neg c0).trans ((if_pos c1).trans ((if_pos c2).trans ((if_neg c3).trans rfl))))), (nn_0 (by rcases hq with rfl | rfl <;> rfl) (nn_0 (by rcases hq with rfl | rfl <;> rfl) hN))⟩
      · exact ⟨_, _, _, _, _, (show (B_X3_lengthenIn_24 q a1 a2 x5 x3 x4 s) = (true, ((x5 + 1), x3, (x4 + (s (q + 20) ((a1 * 8) + x5).toNatClampNeg)), s)) from ((if_neg c0).trans ((if_pos c1).trans ((if_neg c2).trans rfl)))), hN⟩
    · exact ⟨_, _, _, _, _, (show (B_X3_lengthenIn_24 q a1 a2 x5 x3 x4 s) = (true, ((x5 + 1), x3, (x4 + (s (q + 20) ((a1 * 8) + x5).toNatClampNeg)), s)) from ((if_neg c0).trans ((if_neg c1).trans rfl))), hN⟩
noncomputable def R_X3_lengthenIn_139 (q : Nat) (s : Sg) (a3 : Int32) : Int32 × Sg := (a3, s)
theorem r_X3_lengthenIn_139 (hP : WOK b w H0) {q : Nat} (hq : q = 38 ∨ q = 60) {s : Sg} {a3 : Int32} (hN : NN s) : Rx sc g_X3_lengthenIn 2 ((139, [(3, .int a3)], [])) (wd b w wl H0 s, kn) (some (.int (R_X3_lengthenIn_139 q s a3).1)) (wd b w wl H0 (R_X3_lengthenIn_139 q s a3).2, kn) := by
  show Rx sc g_X3_lengthenIn 2 (139, [(3, .int a3)], []) (wd b w wl H0 s, kn) (some (.int (R_X3_lengthenIn_139 q s a3).1)) (wd b w wl H0 (R_X3_lengthenIn_139 q s a3).2, kn)
  refine rx_k 1 (140, [(3, .int a3)], [.int a3]) (fun _ _ => rfl) ?_
  rw [(show (R_X3_lengthenIn_139 q s a3) = (a3, s) from rfl)]
  exact rx_ri rfl
theorem nr_X3_lengthenIn_139 {q : Nat} (hq : q = 38 ∨ q = 60) {s : Sg} {a3 : Int32} (hN : NN s) : NN ((R_X3_lengthenIn_139 q s a3).2) := by
  exact pair_of (P := fun zs => NN zs) (show (R_X3_lengthenIn_139 q s a3) = (a3, s) from rfl) hN
noncomputable def D_X3_lengthenIn (q : Nat) (s : Sg) (a1 : Int32) (a2 : Int32) : Int32 × Sg := (if (D_X11_isIn a1 24) = 0 then (0, s) else (R_X3_lengthenIn_139 q ((itr (uc4 (B_X3_lengthenIn_24 q a1 a2)) BIG (0, 0, (s (q + 17) a1.toNatClampNeg), s)).2.2.2) ((itr (uc4 (B_X3_lengthenIn_24 q a1 a2)) BIG (0, 0, (s (q + 17) a1.toNatClampNeg), s)).2.1)))
theorem m_X3_lengthenIn (hP : WOK b w H0) {q : Nat} (hq : q = 38 ∨ q = 60) {s : Sg} {a1 : Int32} {a2 : Int32} (hN : NN s) : Rx sc g_X3_lengthenIn 2 ((0, [(0, .ref (b + (q + 15))), (1, .int a1), (2, .int a2)], [])) (wd b w wl H0 s, kn) (some (.int (D_X3_lengthenIn q s a1 a2).1)) (wd b w wl H0 (D_X3_lengthenIn q s a1 a2).2, kn) := by
  show Rx sc g_X3_lengthenIn 2 (0, [(0, .ref (b + (q + 15))), (1, .int a1), (2, .int a2)], []) (wd b w wl H0 s, kn) (some (.int (D_X3_lengthenIn q s a1 a2).1)) (wd b w wl H0 (D_X3_lengthenIn q s a1 a2).2, kn)
  refine rx_k 2 (3, [(0, .ref (b + (q + 15))), (1, .int a1), (2, .int a2)], [.int 24, .int a1]) (fun _ _ => rfl) ?_
  refine rx_inv rfl rfl (rc_X11_isIn) rfl rfl rfl rfl rfl rfl ?_
  by_cases c0 : (D_X11_isIn a1 24) = 0
  · refine rx_ifF rfl (nf c0) rfl ?_
    refine rx_k 1 (10, [(0, .ref (b + (q + 15))), (1, .int a1), (2, .int a2)], [.int 0]) (fun _ _ => rfl) ?_
    rw [(show (D_X3_lengthenIn q s a1 a2) = (0, s) from ((if_pos c0).trans rfl))]
    exact rx_ri rfl
  · refine rx_ifT rfl (nt c0) ?_
    refine rx_k 3 (14, [(3, .int 0), (0, .ref (b + (q + 15))), (1, .int a1), (2, .int a2)], [.ref (b + (q + 15))]) (fun _ _ => rfl) ?_
    refine rx_getf rfl rfl (wl_15 hP hq) rfl ?_
    refine rx_k 1 (18, [(3, .int 0), (0, .ref (b + (q + 15))), (1, .int a1), (2, .int a2)], [.int a1, .ref (b + (q + 17))]) (fun _ _ => rfl) ?_
    refine rx_ild rfl rfl (wl_17 hP hq) (ar_at (rg_isIn c0 (m := 24) (n := 24) rfl)) ?_
    refine rx_k 3 (24, [(5, .int 0), (4, .int (s (q + 17) a1.toNatClampNeg)), (3, .int 0), (0, .ref (b + (q + 15))), (1, .int a1), (2, .int a2)], []) (fun _ _ => rfl) ?_
    refine rx_lo am_X3_lengthenIn (lo := [(0, .ref (b + (q + 15))), (1, .int a1), (2, .int a2), (3, .int 0), (4, .int (s (q + 17) a1.toNatClampNeg)), (5, .int 0)]) (List.forall_mem_cons.mpr ⟨List.mem_of_getElem? (i := 3) rfl, (List.forall_mem_cons.mpr ⟨List.mem_of_getElem? (i := 4) rfl, (List.forall_mem_cons.mpr ⟨List.mem_of_getElem? (i := 5) rfl, (List.forall_mem_cons.mpr ⟨List.mem_of_getElem? (i := 2) rfl, (List.forall_mem_cons.mpr ⟨List.mem_of_getElem? (i := 1) rfl, (List.forall_mem_cons.mpr ⟨List.mem_of_getElem? (i := 0) rfl, (fun _ h => absurd h List.not_mem_nil)⟩)⟩)⟩)⟩)⟩)⟩) rfl ?_
    refine rx_loop4s (B := B_X3_lengthenIn_24 q a1 a2) (fr := (fr_X3_lengthenIn_24 b w q a1 a2)) (E := (fe_X3_lengthenIn_24 b w q a1 a2)) (I := fun z5 z3 z4 zs => NN zs) (fun z5 z3 z4 zs oo hh9 hI9 hv9 hc9 he9 => b_X3_lengthenIn_24 hP hq (rg_isIn c0 (m := 24) (n := 24) rfl) oo hh9 hI9 hv9 hc9 he9) (fun z5 z3 z4 zs hz => nb_X3_lengthenIn_24 hq hz) BIG 0 0 (s (q + 17) a1.toNatClampNeg) s _ _ hN (by decide : (0 : Int) ≤ (0 : Int32).toInt) (le_enough (by decide : (0 : Int) ≤ (0 : Int32).toInt)) ?_
    rw [(show (D_X3_lengthenIn q s a1 a2) = (R_X3_lengthenIn_139 q ((itr (uc4 (B_X3_lengthenIn_24 q a1 a2)) BIG (0, 0, (s (q + 17) a1.toNatClampNeg), s)).2.2.2) ((itr (uc4 (B_X3_lengthenIn_24 q a1 a2)) BIG (0, 0, (s (q + 17) a1.toNatClampNeg), s)).2.1)) from ((if_neg c0).trans rfl))]
    exact r_X3_lengthenIn_139 hP hq (itr_inv4 (B := B_X3_lengthenIn_24 q a1 a2) (I := fun z5 z3 z4 zs => NN zs) (fun z5 z3 z4 zs hz => nb_X3_lengthenIn_24 hq hz) BIG 0 0 (s (q + 17) a1.toNatClampNeg) s hN)
theorem bz_X3_lengthenIn {q : Nat} {s : Sg} {a1 : Int32} {a2 : Int32} : bz (D_X3_lengthenIn q s a1 a2).1 = true := by
  by_cases c0 : (D_X11_isIn a1 24) = 0
  · rw [show (D_X3_lengthenIn q s a1 a2) = (0, s) from ((if_pos c0).trans rfl)]
    exact rfl
  · rw [show (D_X3_lengthenIn q s a1 a2) = (R_X3_lengthenIn_139 q ((itr (uc4 (B_X3_lengthenIn_24 q a1 a2)) BIG (0, 0, (s (q + 17) a1.toNatClampNeg), s)).2.2.2) ((itr (uc4 (B_X3_lengthenIn_24 q a1 a2)) BIG (0, 0, (s (q + 17) a1.toNatClampNeg), s)).2.1)) from ((if_neg c0).trans rfl)]
    exact itr_inv4 (B := B_X3_lengthenIn_24 q a1 a2) (I := fun z5 z3 z4 zs => bz z3 = true) (fun z5 z3 z4 zs hz => ⟨(B_X3_lengthenIn_24 q a1 a2 z5 z3 z4 zs).1, (B_X3_lengthenIn_24 q a1 a2 z5 z3 z4 zs).2.1, (B_X3_lengthenIn_24 q a1 a2 z5 z3 z4 zs).2.2.1, (B_X3_lengthenIn_24 q a1 a2 z5 z3 z4 zs).2.2.2.1, (B_X3_lengthenIn_24 q a1 a2 z5 z3 z4 zs).2.2.2.2, rfl, (by
      unfold B_X3_lengthenIn_24
      repeat' split
      all_goals first | exact hz | rfl)⟩) BIG 0 0 (s (q + 17) a1.toNatClampNeg) s rfl
theorem rc_X3_lengthenIn (hP : WOK b w H0) {q : Nat} (hq : q = 38 ∨ q = 60) {s : Sg} {a1 : Int32} {a2 : Int32} (hN : NN s) : Rc sc 3 39 [.ref (b + (q + 15)), .int a1, .int a2] (wd b w wl H0 s, kn) (some (.int (D_X3_lengthenIn q s a1 a2).1)) (wd b w wl H0 (D_X3_lengthenIn q s a1 a2).2, kn) := rx_mc (m_X3_lengthenIn hP hq hN) rfl (bz_X3_lengthenIn ..) (Nat.ble_eq_true_of_le (Nat.le_refl _)) (Nat.ble_eq_true_of_le (Nat.le_refl _))
theorem nn_X3_lengthenIn {q : Nat} (hq : q = 38 ∨ q = 60) {s : Sg} {a1 : Int32} {a2 : Int32} (hN : NN s) : NN (D_X3_lengthenIn q s a1 a2).2 := by
  by_cases c0 : (D_X11_isIn a1 24) = 0
  · exact pair_of (P := fun zs => NN zs) (show (D_X3_lengthenIn q s a1 a2) = (0, s) from ((if_pos c0).trans rfl)) hN
  · rw [show (D_X3_lengthenIn q s a1 a2) = (R_X3_lengthenIn_139 q ((itr (uc4 (B_X3_lengthenIn_24 q a1 a2)) BIG (0, 0, (s (q + 17) a1.toNatClampNeg), s)).2.2.2) ((itr (uc4 (B_X3_lengthenIn_24 q a1 a2)) BIG (0, 0, (s (q + 17) a1.toNatClampNeg), s)).2.1)) from ((if_neg c0).trans rfl)]
    exact (nr_X3_lengthenIn_139 hq (itr_inv4 (B := B_X3_lengthenIn_24 q a1 a2) (I := fun z5 z3 z4 zs => NN zs) (fun z5 z3 z4 zs hz => nb_X3_lengthenIn_24 hq hz) BIG 0 0 (s (q + 17) a1.toNatClampNeg) s hN))
theorem fwb_X3_lengthenIn_24 {q : Nat} {a1 : Int32} {a2 : Int32} {x5 : Int32} {x3 : Int32} {x4 : Int32} {s : Sg} {k j : Nat} (l19 : k ≠ q + 19) (l20 : k ≠ q + 20) : ∃ (f : Bool) (t5 : Int32) (t3 : Int32) (t4 : Int32) (ts : Sg), (B_X3_lengthenIn_24 q a1 a2 x5 x3 x4 s) = (f, (t5, t3, t4, ts)) ∧ ts k j = s k j := by
  by_cases c0 : 8 ≤ x5
  · exact ⟨_, _, _, _, _, (show (B_X3_lengthenIn_24 q a1 a2 x5 x3 x4 s) = (false, (x5, x3, x4, s)) from ((if_pos c0).trans rfl)), rfl⟩
  · by_cases c1 : (D_X8_kind s a1 x5) = 2
    · by_cases c2 : (s (q + 20) ((a1 * 8) + x5).toNatClampNeg) = 2
      · by_cases c3 : (D_J9_abs_0f7a4 ((x4 + (s (q + 20) ((a1 * 8) + x5).toNatClampNeg)) - (D_X3_standsFor q s (D_X8_name s a1 x5)))) ≤ a2
        · exact ⟨_, _, _, _, _, (show (B_X3_lengthenIn_24 q a1 a2 x5 x3 x4 s) = (true, ((x5 + 1), x3, (x4 + (s (q + 20) ((a1 * 8) + x5).toNatClampNeg)), s)) from ((if_neg c0).trans ((if_pos c1).trans ((if_pos c2).trans ((if_pos c3).trans rfl))))), rfl⟩
        · exact ⟨_, _, _, _, _, (show (B_X3_lengthenIn_24 q a1 a2 x5 x3 x4 s) = (true, ((x5 + 1), 1, (x4 + (s (q + 20) ((a1 * 8) + x5).toNatClampNeg)), (up (up s (q + 20) ((a1 * 8) + x5).toNatClampNeg 5) (q + 19) a1.toNatClampNeg ((s (q + 19) a1.toNatClampNeg) + 1)))) from ((if_neg c0).trans ((if_pos c1).trans ((if_pos c2).trans ((if_neg c3).trans rfl))))), ((up_a l19).trans ((up_a l20).trans rfl))⟩
      · exact ⟨_, _, _, _, _, (show (B_X3_lengthenIn_24 q a1 a2 x5 x3 x4 s) = (true, ((x5 + 1), x3, (x4 + (s (q + 20) ((a1 * 8) + x5).toNatClampNeg)), s)) from ((if_neg c0).trans ((if_pos c1).trans ((if_neg c2).trans rfl)))), rfl⟩
    · exact ⟨_, _, _, _, _, (show (B_X3_lengthenIn_24 q a1 a2 x5 x3 x4 s) = (true, ((x5 + 1), x3, (x4 + (s (q + 20) ((a1 * 8) + x5).toNatClampNeg)), s)) from ((if_neg c0).trans ((if_neg c1).trans rfl))), rfl⟩
theorem fwr_X3_lengthenIn_139 {q : Nat} {s : Sg} {a3 : Int32} {k j : Nat} (l19 : k ≠ q + 19) (l20 : k ≠ q + 20) : (R_X3_lengthenIn_139 q s a3).2 k j = s k j := by
  exact pair_of (P := fun zs => zs k j = s k j) (show (R_X3_lengthenIn_139 q s a3) = (a3, s) from rfl) rfl
theorem fw_X3_lengthenIn {q : Nat} {s : Sg} {a1 : Int32} {a2 : Int32} {k j : Nat} (l19 : k ≠ q + 19) (l20 : k ≠ q + 20) : (D_X3_lengthenIn q s a1 a2).2 k j = s k j := by
  by_cases c0 : (D_X11_isIn a1 24) = 0
  · exact pair_of (P := fun zs => zs k j = s k j) (show (D_X3_lengthenIn q s a1 a2) = (0, s) from ((if_pos c0).trans rfl)) rfl
  · rw [show (D_X3_lengthenIn q s a1 a2) = (R_X3_lengthenIn_139 q ((itr (uc4 (B_X3_lengthenIn_24 q a1 a2)) BIG (0, 0, (s (q + 17) a1.toNatClampNeg), s)).2.2.2) ((itr (uc4 (B_X3_lengthenIn_24 q a1 a2)) BIG (0, 0, (s (q + 17) a1.toNatClampNeg), s)).2.1)) from ((if_neg c0).trans rfl)]
    first | done | exact ((fwr_X3_lengthenIn_139 l19 l20).trans ((itr_inv4 (B := B_X3_lengthenIn_24 q a1 a2) (I := fun z5 z3 z4 zs => zs k j = s k j) (fun z5 z3 z4 zs hz => exq4 (fwb_X3_lengthenIn_24 l19 l20) hz) BIG 0 0 (s (q + 17) a1.toNatClampNeg) s rfl).trans rfl))
-- LinkHarbour$Layout.lengthenAll
def fr_X3_lengthenAll_4 (b w : Nat) (q : Nat) (a1 : Int32) (x3 : Int32) (x2 : Int32) : EF := (4, [(0, .ref (b + (q + 15))), (1, .int a1), (2, .int x2), (3, .int x3)], [])
def fe_X3_lengthenAll_4 (b w : Nat) (q : Nat) (a1 : Int32) (x3 : Int32) (x2 : Int32) : EF := (40, [(2, .int x2)], [])
noncomputable def B_X3_lengthenAll_4 (q : Nat) (a1 : Int32) (x3 : Int32) (x2 : Int32) (s : Sg) : Bool × (Int32 × Int32 × Sg) := (if (s (q + 15) 5) ≤ x3 then (false, (x3, x2, s)) else (if 24 ≤ x3 then (false, (x3, x2, s)) else (if (D_X3_lengthenIn q s (s (q + 16) x3.toNatClampNeg) a1).1 = 0 then (true, ((x3 + 1), x2, (D_X3_lengthenIn q s (s (q + 16) x3.toNatClampNeg) a1).2)) else (true, ((x3 + 1), 1, (D_X3_lengthenIn q s (s (q + 16) x3.toNatClampNeg) a1).2)))))
theorem b_X3_lengthenAll_4 (hP : WOK b w H0) {q : Nat} (hq : q = 38 ∨ q = 60) {s : Sg} {a1 : Int32} {x3 : Int32} {x2 : Int32} (o : Option Value) (h' : EH) (hN : NN s) (hv : 0 ≤ x3.toInt) (hc : ∀ (t3 : Int32) (t2 : Int32) (ts : Sg), (B_X3_lengthenAll_4 q a1 x3 x2 s) = (true, (t3, t2, ts)) → x3.toInt < 2147483647 → t3 = x3 + 1 → Rx sc g_X3_lengthenAll 3 (fr_X3_lengthenAll_4 b w q a1 t3 t2) (wd b w wl H0 ts, kn) o h') (he : ∀ (t3 : Int32) (t2 : Int32) (ts : Sg), (B_X3_lengthenAll_4 q a1 x3 x2 s) = (false, (t3, t2, ts)) → Rx sc g_X3_lengthenAll 3 (fe_X3_lengthenAll_4 b w q a1 t3 t2) (wd b w wl H0 ts, kn) o h') : Rx sc g_X3_lengthenAll 3 (fr_X3_lengthenAll_4 b w q a1 x3 x2) (wd b w wl H0 s, kn) o h' := by
  show Rx sc g_X3_lengthenAll 3 (4, [(0, .ref (b + (q + 15))), (1, .int a1), (2, .int x2), (3, .int x3)], []) (wd b w wl H0 s, kn) o h'
  refine rx_k 2 (6, [(0, .ref (b + (q + 15))), (1, .int a1), (2, .int x2), (3, .int x3)], [.ref (b + (q + 15)), .int x3]) (fun _ _ => rfl) ?_
  refine rx_getf rfl rfl (wl_15 hP hq) rfl ?_
  by_cases c0 : (s (q + 15) 5) ≤ x3
  · refine rx_icT rfl (bt c0) ?_
    exact rx_lo am_X3_lengthenAll (lo := [(2, .int x2)]) (List.forall_mem_cons.mpr ⟨List.mem_of_getElem? (i := 2) rfl, (fun _ h => absurd h List.not_mem_nil)⟩) rfl (he _ _ _ (show (B_X3_lengthenAll_4 q a1 x3 x2 s) = (false, (x3, x2, s)) from ((if_pos c0).trans rfl)))
  · refine rx_icF rfl (bf c0) rfl ?_
    refine rx_k 2 (15, [(0, .ref (b + (q + 15))), (1, .int a1), (2, .int x2), (3, .int x3)], [.int 24, .int x3]) (fun _ _ => rfl) ?_
    by_cases c1 : 24 ≤ x3
    · refine rx_icT rfl (bt c1) ?_
      exact rx_lo am_X3_lengthenAll (lo := [(2, .int x2)]) (List.forall_mem_cons.mpr ⟨List.mem_of_getElem? (i := 2) rfl, (fun _ h => absurd h List.not_mem_nil)⟩) rfl (he _ _ _ (show (B_X3_lengthenAll_4 q a1 x3 x2 s) = (false, (x3, x2, s)) from ((if_neg c0).trans ((if_pos c1).trans rfl))))
    · refine rx_icF rfl (bf c1) rfl ?_
      refine rx_k 2 (20, [(0, .ref (b + (q + 15))), (1, .int a1), (2, .int x2), (3, .int x3)], [.ref (b + (q + 15)), .ref (b + (q + 15))]) (fun _ _ => rfl) ?_
      refine rx_getf rfl rfl (wl_15 hP hq) rfl ?_
      refine rx_k 1 (24, [(0, .ref (b + (q + 15))), (1, .int a1), (2, .int x2), (3, .int x3)], [.int x3, .ref (b + (q + 16)), .ref (b + (q + 15))]) (fun _ _ => rfl) ?_
      refine rx_ild rfl rfl (wl_16 hP hq) (ar_at (rg_c hv c1 (m := 24) (n := 24) rfl)) ?_
      refine rx_k 1 (26, [(0, .ref (b + (q + 15))), (1, .int a1), (2, .int x2), (3, .int x3)], [.int a1, .int (s (q + 16) x3.toNatClampNeg), .ref (b + (q + 15))]) (fun _ _ => rfl) ?_
      refine rx_inv rfl rfl (rc_X3_lengthenIn hP hq hN) rfl rfl rfl (q_recv (wl_15 hP hq)) rfl rfl ?_
      by_cases c2 : (D_X3_lengthenIn q s (s (q + 16) x3.toNatClampNeg) a1).1 = 0
      · refine rx_ifT rfl (bt c2) ?_
        refine rx_k 2 (4, [(3, .int (x3 + 1)), (0, .ref (b + (q + 15))), (1, .int a1), (2, .int x2)], []) (fun _ _ => rfl) ?_
        refine rx_lo am_X3_lengthenAll (lo := [(0, .ref (b + (q + 15))), (1, .int a1), (2, .int x2), (3, .int (x3 + 1))]) (List.forall_mem_cons.mpr ⟨List.mem_of_getElem? (i := 1) rfl, (List.forall_mem_cons.mpr ⟨List.mem_of_getElem? (i := 2) rfl, (List.forall_mem_cons.mpr ⟨List.mem_of_getElem? (i := 3) rfl, (List.forall_mem_cons.mpr ⟨List.mem_of_getElem? (i := 0) rfl, (fun _ h => absurd h List.not_mem_nil)⟩)⟩)⟩)⟩) rfl (hc _ _ _ (show (B_X3_lengthenAll_4 q a1 x3 x2 s) = (true, ((x3 + 1), x2, (D_X3_lengthenIn q s (s (q + 16) x3.toNatClampNeg) a1).2)) from ((if_neg c0).trans ((if_neg c1).trans ((if_pos c2).trans rfl)))) (lt_nle c0) rfl)
      · refine rx_ifF rfl (bf c2) rfl ?_
        refine rx_k 4 (4, [(3, .int (x3 + 1)), (2, .int 1), (0, .ref (b + (q + 15))), (1, .int a1)], []) (fun _ _ => rfl) ?_
        refine rx_lo am_X3_lengthenAll (lo := [(0, .ref (b + (q + 15))), (1, .int a1), (2, .int 1), (3, .int (x3 + 1))]) (List.forall_mem_cons.mpr ⟨List.mem_of_getElem? (i := 2) rfl, (List.forall_mem_cons.mpr ⟨List.mem_of_getElem? (i := 3) rfl, (List.forall_mem_cons.mpr ⟨List.mem_of_getElem? (i := 1) rfl, (List.forall_mem_cons.mpr ⟨List.mem_of_getElem? (i := 0) rfl, (fun _ h => absurd h List.not_mem_nil)⟩)⟩)⟩)⟩) rfl (hc _ _ _ (show (B_X3_lengthenAll_4 q a1 x3 x2 s) = (true, ((x3 + 1), 1, (D_X3_lengthenIn q s (s (q + 16) x3.toNatClampNeg) a1).2)) from ((if_neg c0).trans ((if_neg c1).trans ((if_neg c2).trans rfl)))) (lt_nle c0) rfl)
theorem nb_X3_lengthenAll_4 {q : Nat} (hq : q = 38 ∨ q = 60) {a1 : Int32} {x3 : Int32} {x2 : Int32} {s : Sg} (hN : NN s) : ∃ (f : Bool) (t3 : Int32) (t2 : Int32) (ts : Sg), (B_X3_lengthenAll_4 q a1 x3 x2 s) = (f, (t3, t2, ts)) ∧ NN ts := by
  by_cases c0 : (s (q + 15) 5) ≤ x3
  · exact ⟨_, _, _, _, (show (B_X3_lengthenAll_4 q a1 x3 x2 s) = (false, (x3, x2, s)) from ((if_pos c0).trans rfl)), hN⟩
  · by_cases c1 : 24 ≤ x3
    · exact ⟨_, _, _, _, (show (B_X3_lengthenAll_4 q a1 x3 x2 s) = (false, (x3, x2, s)) from ((if_neg c0).trans ((if_pos c1).trans rfl))), hN⟩
    · by_cases c2 : (D_X3_lengthenIn q s (s (q + 16) x3.toNatClampNeg) a1).1 = 0
      · exact ⟨_, _, _, _, (show (B_X3_lengthenAll_4 q a1 x3 x2 s) = (true, ((x3 + 1), x2, (D_X3_lengthenIn q s (s (q + 16) x3.toNatClampNeg) a1).2)) from ((if_neg c0).trans ((if_neg c1).trans ((if_pos c2).trans rfl)))), (nn_X3_lengthenIn hq hN)⟩
      · exact ⟨_, _, _, _, (show (B_X3_lengthenAll_4 q a1 x3 x2 s) = (true, ((x3 + 1), 1, (D_X3_lengthenIn q s (s (q + 16) x3.toNatClampNeg) a1).2)) from ((if_neg c0).trans ((if_neg c1).trans ((if_neg c2).trans rfl)))), (nn_X3_lengthenIn hq hN)⟩
noncomputable def R_X3_lengthenAll_40 (q : Nat) (s : Sg) (a2 : Int32) : Int32 × Sg := (a2, s)
theorem r_X3_lengthenAll_40 (hP : WOK b w H0) {q : Nat} (hq : q = 38 ∨ q = 60) {s : Sg} {a2 : Int32} (hN : NN s) : Rx sc g_X3_lengthenAll 3 ((40, [(2, .int a2)], [])) (wd b w wl H0 s, kn) (some (.int (R_X3_lengthenAll_40 q s a2).1)) (wd b w wl H0 (R_X3_lengthenAll_40 q s a2).2, kn) := by
  show Rx sc g_X3_lengthenAll 3 (40, [(2, .int a2)], []) (wd b w wl H0 s, kn) (some (.int (R_X3_lengthenAll_40 q s a2).1)) (wd b w wl H0 (R_X3_lengthenAll_40 q s a2).2, kn)
  refine rx_k 1 (41, [(2, .int a2)], [.int a2]) (fun _ _ => rfl) ?_
  rw [(show (R_X3_lengthenAll_40 q s a2) = (a2, s) from rfl)]
  exact rx_ri rfl
theorem nr_X3_lengthenAll_40 {q : Nat} (hq : q = 38 ∨ q = 60) {s : Sg} {a2 : Int32} (hN : NN s) : NN ((R_X3_lengthenAll_40 q s a2).2) := by
  exact pair_of (P := fun zs => NN zs) (show (R_X3_lengthenAll_40 q s a2) = (a2, s) from rfl) hN
noncomputable def D_X3_lengthenAll (q : Nat) (s : Sg) (a1 : Int32) : Int32 × Sg := (R_X3_lengthenAll_40 q ((itr (uc3 (B_X3_lengthenAll_4 q a1)) BIG (0, 0, s)).2.2) ((itr (uc3 (B_X3_lengthenAll_4 q a1)) BIG (0, 0, s)).2.1))
theorem m_X3_lengthenAll (hP : WOK b w H0) {q : Nat} (hq : q = 38 ∨ q = 60) {s : Sg} {a1 : Int32} (hN : NN s) : Rx sc g_X3_lengthenAll 3 ((0, [(0, .ref (b + (q + 15))), (1, .int a1)], [])) (wd b w wl H0 s, kn) (some (.int (D_X3_lengthenAll q s a1).1)) (wd b w wl H0 (D_X3_lengthenAll q s a1).2, kn) := by
  show Rx sc g_X3_lengthenAll 3 (0, [(0, .ref (b + (q + 15))), (1, .int a1)], []) (wd b w wl H0 s, kn) (some (.int (D_X3_lengthenAll q s a1).1)) (wd b w wl H0 (D_X3_lengthenAll q s a1).2, kn)
  refine rx_k 4 (4, [(3, .int 0), (2, .int 0), (0, .ref (b + (q + 15))), (1, .int a1)], []) (fun _ _ => rfl) ?_
  refine rx_lo am_X3_lengthenAll (lo := [(0, .ref (b + (q + 15))), (1, .int a1), (2, .int 0), (3, .int 0)]) (List.forall_mem_cons.mpr ⟨List.mem_of_getElem? (i := 2) rfl, (List.forall_mem_cons.mpr ⟨List.mem_of_getElem? (i := 3) rfl, (List.forall_mem_cons.mpr ⟨List.mem_of_getElem? (i := 1) rfl, (List.forall_mem_cons.mpr ⟨List.mem_of_getElem? (i := 0) rfl, (fun _ h => absurd h List.not_mem_nil)⟩)⟩)⟩)⟩) rfl ?_
  refine rx_loop3s (B := B_X3_lengthenAll_4 q a1) (fr := (fr_X3_lengthenAll_4 b w q a1)) (E := (fe_X3_lengthenAll_4 b w q a1)) (I := fun z3 z2 zs => NN zs) (fun z3 z2 zs oo hh9 hI9 hv9 hc9 he9 => b_X3_lengthenAll_4 hP hq oo hh9 hI9 hv9 hc9 he9) (fun z3 z2 zs hz => nb_X3_lengthenAll_4 hq hz) BIG 0 0 s _ _ hN (by decide : (0 : Int) ≤ (0 : Int32).toInt) (le_enough (by decide : (0 : Int) ≤ (0 : Int32).toInt)) ?_
  rw [(show (D_X3_lengthenAll q s a1) = (R_X3_lengthenAll_40 q ((itr (uc3 (B_X3_lengthenAll_4 q a1)) BIG (0, 0, s)).2.2) ((itr (uc3 (B_X3_lengthenAll_4 q a1)) BIG (0, 0, s)).2.1)) from rfl)]
  exact r_X3_lengthenAll_40 hP hq (itr_inv3 (B := B_X3_lengthenAll_4 q a1) (I := fun z3 z2 zs => NN zs) (fun z3 z2 zs hz => nb_X3_lengthenAll_4 hq hz) BIG 0 0 s hN)
theorem bz_X3_lengthenAll {q : Nat} {s : Sg} {a1 : Int32} : bz (D_X3_lengthenAll q s a1).1 = true := by
  rw [show (D_X3_lengthenAll q s a1) = (R_X3_lengthenAll_40 q ((itr (uc3 (B_X3_lengthenAll_4 q a1)) BIG (0, 0, s)).2.2) ((itr (uc3 (B_X3_lengthenAll_4 q a1)) BIG (0, 0, s)).2.1)) from rfl]
  exact itr_inv3 (B := B_X3_lengthenAll_4 q a1) (I := fun z3 z2 zs => bz z2 = true) (fun z3 z2 zs hz => ⟨(B_X3_lengthenAll_4 q a1 z3 z2 zs).1, (B_X3_lengthenAll_4 q a1 z3 z2 zs).2.1, (B_X3_lengthenAll_4 q a1 z3 z2 zs).2.2.1, (B_X3_lengthenAll_4 q a1 z3 z2 zs).2.2.2, rfl, (by
    unfold B_X3_lengthenAll_4
    repeat' split
    all_goals first | exact hz | rfl)⟩) BIG 0 0 s rfl
theorem rc_X3_lengthenAll (hP : WOK b w H0) {q : Nat} (hq : q = 38 ∨ q = 60) {s : Sg} {a1 : Int32} (hN : NN s) : Rc sc 4 38 [.ref (b + (q + 15)), .int a1] (wd b w wl H0 s, kn) (some (.int (D_X3_lengthenAll q s a1).1)) (wd b w wl H0 (D_X3_lengthenAll q s a1).2, kn) := rx_mc (m_X3_lengthenAll hP hq hN) rfl (bz_X3_lengthenAll ..) (Nat.ble_eq_true_of_le (Nat.le_refl _)) (Nat.ble_eq_true_of_le (Nat.le_refl _))
theorem nn_X3_lengthenAll {q : Nat} (hq : q = 38 ∨ q = 60) {s : Sg} {a1 : Int32} (hN : NN s) : NN (D_X3_lengthenAll q s a1).2 := by
  rw [show (D_X3_lengthenAll q s a1) = (R_X3_lengthenAll_40 q ((itr (uc3 (B_X3_lengthenAll_4 q a1)) BIG (0, 0, s)).2.2) ((itr (uc3 (B_X3_lengthenAll_4 q a1)) BIG (0, 0, s)).2.1)) from rfl]
  exact (nr_X3_lengthenAll_40 hq (itr_inv3 (B := B_X3_lengthenAll_4 q a1) (I := fun z3 z2 zs => NN zs) (fun z3 z2 zs hz => nb_X3_lengthenAll_4 hq hz) BIG 0 0 s hN))
theorem fwb_X3_lengthenAll_4 {q : Nat} {a1 : Int32} {x3 : Int32} {x2 : Int32} {s : Sg} {k j : Nat} (l19 : k ≠ q + 19) (l20 : k ≠ q + 20) : ∃ (f : Bool) (t3 : Int32) (t2 : Int32) (ts : Sg), (B_X3_lengthenAll_4 q a1 x3 x2 s) = (f, (t3, t2, ts)) ∧ ts k j = s k j := by
  by_cases c0 : (s (q + 15) 5) ≤ x3
  · exact ⟨_, _, _, _, (show (B_X3_lengthenAll_4 q a1 x3 x2 s) = (false, (x3, x2, s)) from ((if_pos c0).trans rfl)), rfl⟩
  · by_cases c1 : 24 ≤ x3
    · exact ⟨_, _, _, _, (show (B_X3_lengthenAll_4 q a1 x3 x2 s) = (false, (x3, x2, s)) from ((if_neg c0).trans ((if_pos c1).trans rfl))), rfl⟩
    · by_cases c2 : (D_X3_lengthenIn q s (s (q + 16) x3.toNatClampNeg) a1).1 = 0
      · exact ⟨_, _, _, _, (show (B_X3_lengthenAll_4 q a1 x3 x2 s) = (true, ((x3 + 1), x2, (D_X3_lengthenIn q s (s (q + 16) x3.toNatClampNeg) a1).2)) from ((if_neg c0).trans ((if_neg c1).trans ((if_pos c2).trans rfl)))), ((fw_X3_lengthenIn l19 l20).trans rfl)⟩
      · exact ⟨_, _, _, _, (show (B_X3_lengthenAll_4 q a1 x3 x2 s) = (true, ((x3 + 1), 1, (D_X3_lengthenIn q s (s (q + 16) x3.toNatClampNeg) a1).2)) from ((if_neg c0).trans ((if_neg c1).trans ((if_neg c2).trans rfl)))), ((fw_X3_lengthenIn l19 l20).trans rfl)⟩
theorem fwr_X3_lengthenAll_40 {q : Nat} {s : Sg} {a2 : Int32} {k j : Nat} (l19 : k ≠ q + 19) (l20 : k ≠ q + 20) : (R_X3_lengthenAll_40 q s a2).2 k j = s k j := by
  exact pair_of (P := fun zs => zs k j = s k j) (show (R_X3_lengthenAll_40 q s a2) = (a2, s) from rfl) rfl
theorem fw_X3_lengthenAll {q : Nat} {s : Sg} {a1 : Int32} {k j : Nat} (l19 : k ≠ q + 19) (l20 : k ≠ q + 20) : (D_X3_lengthenAll q s a1).2 k j = s k j := by
  rw [show (D_X3_lengthenAll q s a1) = (R_X3_lengthenAll_40 q ((itr (uc3 (B_X3_lengthenAll_4 q a1)) BIG (0, 0, s)).2.2) ((itr (uc3 (B_X3_lengthenAll_4 q a1)) BIG (0, 0, s)).2.1)) from rfl]
  first | done | exact ((fwr_X3_lengthenAll_40 l19 l20).trans ((itr_inv3 (B := B_X3_lengthenAll_4 q a1) (I := fun z3 z2 zs => zs k j = s k j) (fun z3 z2 zs hz => exq3 (fwb_X3_lengthenAll_4 l19 l20) hz) BIG 0 0 s rfl).trans rfl))
-- LinkHarbour$Layout.layOut
def fr_X3_layOut_6 (b w : Nat) (q : Nat) (a1 : Int32) (x2 : Int32) : EF := (6, [(0, .ref (b + (q + 15))), (1, .int a1), (2, .int x2)], [])
def fe_X3_layOut_6 (b w : Nat) (q : Nat) (a1 : Int32) (x2 : Int32) : EF := (42, [], [])
noncomputable def B_X3_layOut_6 (q : Nat) (a1 : Int32) (x2 : Int32) (s : Sg) : Bool × (Int32 × Sg) := (if 192 < x2 then (false, (x2, s)) else (if (D_X3_lengthenAll q (D_X3_addressNames q (D_X3_placeCommons q (D_X3_placeSections q s))) a1).1 = 0 then (false, (x2, (D_X3_lengthenAll q (D_X3_addressNames q (D_X3_placeCommons q (D_X3_placeSections q s))) a1).2)) else (true, ((x2 + 1), (D_X3_lengthenAll q (D_X3_addressNames q (D_X3_placeCommons q (D_X3_placeSections q s))) a1).2))))
theorem b_X3_layOut_6 (hP : WOK b w H0) {q : Nat} (hq : q = 38 ∨ q = 60) {s : Sg} {a1 : Int32} {x2 : Int32} (o : Option Value) (h' : EH) (hN : NN s) (hv : 0 ≤ x2.toInt) (hc : ∀ (t2 : Int32) (ts : Sg), (B_X3_layOut_6 q a1 x2 s) = (true, (t2, ts)) → x2.toInt < 2147483647 → t2 = x2 + 1 → Rx sc g_X3_layOut 4 (fr_X3_layOut_6 b w q a1 t2) (wd b w wl H0 ts, kn) o h') (he : ∀ (t2 : Int32) (ts : Sg), (B_X3_layOut_6 q a1 x2 s) = (false, (t2, ts)) → Rx sc g_X3_layOut 4 (fe_X3_layOut_6 b w q a1 t2) (wd b w wl H0 ts, kn) o h') : Rx sc g_X3_layOut 4 (fr_X3_layOut_6 b w q a1 x2) (wd b w wl H0 s, kn) o h' := by
  show Rx sc g_X3_layOut 4 (6, [(0, .ref (b + (q + 15))), (1, .int a1), (2, .int x2)], []) (wd b w wl H0 s, kn) o h'
  refine rx_k 2 (10, [(0, .ref (b + (q + 15))), (1, .int a1), (2, .int x2)], [.int 192, .int x2]) (fun _ _ => rfl) ?_
  by_cases c0 : 192 < x2
  · refine rx_icT rfl (bt c0) ?_
    exact rx_lo am_X3_layOut (lo := []) (fun _ h => absurd h List.not_mem_nil) rfl (he _ _ (show (B_X3_layOut_6 q a1 x2 s) = (false, (x2, s)) from ((if_pos c0).trans rfl)))
  · refine rx_icF rfl (bf c0) rfl ?_
    refine rx_k 1 (14, [(0, .ref (b + (q + 15))), (1, .int a1), (2, .int x2)], [.ref (b + (q + 15))]) (fun _ _ => rfl) ?_
    refine rx_inv rfl rfl (rc_X3_placeSections hP hq hN) rfl rfl rfl (q_recv (wl_15 hP hq)) rfl rfl ?_
    refine rx_k 1 (18, [(0, .ref (b + (q + 15))), (1, .int a1), (2, .int x2)], [.ref (b + (q + 15))]) (fun _ _ => rfl) ?_
    refine rx_inv rfl rfl (rc_X3_placeCommons hP hq (nn_X3_placeSections hq hN)) rfl rfl rfl (q_recv (wl_15 hP hq)) rfl rfl ?_
    refine rx_k 1 (22, [(0, .ref (b + (q + 15))), (1, .int a1), (2, .int x2)], [.ref (b + (q + 15))]) (fun _ _ => rfl) ?_
    refine rx_inv rfl rfl (rc_X3_addressNames hP hq (nn_X3_placeCommons hq (nn_X3_placeSections hq hN))) rfl rfl rfl (q_recv (wl_15 hP hq)) rfl rfl ?_
    refine rx_k 2 (27, [(0, .ref (b + (q + 15))), (1, .int a1), (2, .int x2)], [.int a1, .ref (b + (q + 15))]) (fun _ _ => rfl) ?_
    refine rx_inv rfl rfl (rc_X3_lengthenAll hP hq (nn_X3_addressNames hq (nn_X3_placeCommons hq (nn_X3_placeSections hq hN)))) rfl rfl rfl (q_recv (wl_15 hP hq)) rfl rfl ?_
    by_cases c1 : (D_X3_lengthenAll q (D_X3_addressNames q (D_X3_placeCommons q (D_X3_placeSections q s))) a1).1 = 0
    · refine rx_ifF rfl (nf c1) rfl ?_
      refine rx_k 1 (42, [(0, .ref (b + (q + 15))), (1, .int a1), (2, .int x2)], []) (fun _ _ => rfl) ?_
      exact rx_lo am_X3_layOut (lo := []) (fun _ h => absurd h List.not_mem_nil) rfl (he _ _ (show (B_X3_layOut_6 q a1 x2 s) = (false, (x2, (D_X3_lengthenAll q (D_X3_addressNames q (D_X3_placeCommons q (D_X3_placeSections q s))) a1).2)) from ((if_neg c0).trans ((if_pos c1).trans rfl))))
    · refine rx_ifT rfl (nt c1) ?_
      refine rx_k 2 (6, [(2, .int (x2 + 1)), (0, .ref (b + (q + 15))), (1, .int a1)], []) (fun _ _ => rfl) ?_
      refine rx_lo am_X3_layOut (lo := [(0, .ref (b + (q + 15))), (1, .int a1), (2, .int (x2 + 1))]) (List.forall_mem_cons.mpr ⟨List.mem_of_getElem? (i := 1) rfl, (List.forall_mem_cons.mpr ⟨List.mem_of_getElem? (i := 2) rfl, (List.forall_mem_cons.mpr ⟨List.mem_of_getElem? (i := 0) rfl, (fun _ h => absurd h List.not_mem_nil)⟩)⟩)⟩) rfl (hc _ _ (show (B_X3_layOut_6 q a1 x2 s) = (true, ((x2 + 1), (D_X3_lengthenAll q (D_X3_addressNames q (D_X3_placeCommons q (D_X3_placeSections q s))) a1).2)) from ((if_neg c0).trans ((if_neg c1).trans rfl))) (lt_le (Int32.not_lt.mp c0) (m := 192) (n := 192) rfl (by decide)) rfl)
theorem nb_X3_layOut_6 {q : Nat} (hq : q = 38 ∨ q = 60) {a1 : Int32} {x2 : Int32} {s : Sg} (hN : NN s) : ∃ (f : Bool) (t2 : Int32) (ts : Sg), (B_X3_layOut_6 q a1 x2 s) = (f, (t2, ts)) ∧ NN ts := by
  by_cases c0 : 192 < x2
  · exact ⟨_, _, _, (show (B_X3_layOut_6 q a1 x2 s) = (false, (x2, s)) from ((if_pos c0).trans rfl)), hN⟩
  · by_cases c1 : (D_X3_lengthenAll q (D_X3_addressNames q (D_X3_placeCommons q (D_X3_placeSections q s))) a1).1 = 0
    · exact ⟨_, _, _, (show (B_X3_layOut_6 q a1 x2 s) = (false, (x2, (D_X3_lengthenAll q (D_X3_addressNames q (D_X3_placeCommons q (D_X3_placeSections q s))) a1).2)) from ((if_neg c0).trans ((if_pos c1).trans rfl))), (nn_X3_lengthenAll hq (nn_X3_addressNames hq (nn_X3_placeCommons hq (nn_X3_placeSections hq hN))))⟩
    · exact ⟨_, _, _, (show (B_X3_layOut_6 q a1 x2 s) = (true, ((x2 + 1), (D_X3_lengthenAll q (D_X3_addressNames q (D_X3_placeCommons q (D_X3_placeSections q s))) a1).2)) from ((if_neg c0).trans ((if_neg c1).trans rfl))), (nn_X3_lengthenAll hq (nn_X3_addressNames hq (nn_X3_placeCommons hq (nn_X3_placeSections hq hN))))⟩
noncomputable def R_X3_layOut_42 (q : Nat) (s : Sg) : Sg := s
theorem r_X3_layOut_42 (hP : WOK b w H0) {q : Nat} (hq : q = 38 ∨ q = 60) {s : Sg} (hN : NN s) : Rx sc g_X3_layOut 4 ((42, [], [])) (wd b w wl H0 s, kn) none (wd b w wl H0 (R_X3_layOut_42 q s), kn) := by
  show Rx sc g_X3_layOut 4 (42, [], []) (wd b w wl H0 s, kn) none (wd b w wl H0 (R_X3_layOut_42 q s), kn)
  rw [(show (R_X3_layOut_42 q s) = s from rfl)]
  exact rx_rv rfl
theorem nr_X3_layOut_42 {q : Nat} (hq : q = 38 ∨ q = 60) {s : Sg} (hN : NN s) : NN ((R_X3_layOut_42 q s)) := by
  rw [show (R_X3_layOut_42 q s) = s from rfl]
  exact hN
noncomputable def D_X3_layOut (q : Nat) (s : Sg) (a1 : Int32) : Sg := (R_X3_layOut_42 q ((itr (uc2 (B_X3_layOut_6 q a1)) BIG (0, (D_X3_orderSections q s))).2))
theorem m_X3_layOut (hP : WOK b w H0) {q : Nat} (hq : q = 38 ∨ q = 60) {s : Sg} {a1 : Int32} (hN : NN s) : Rx sc g_X3_layOut 4 ((0, [(0, .ref (b + (q + 15))), (1, .int a1)], [])) (wd b w wl H0 s, kn) none (wd b w wl H0 (D_X3_layOut q s a1), kn) := by
  show Rx sc g_X3_layOut 4 (0, [(0, .ref (b + (q + 15))), (1, .int a1)], []) (wd b w wl H0 s, kn) none (wd b w wl H0 (D_X3_layOut q s a1), kn)
  refine rx_k 1 (1, [(0, .ref (b + (q + 15))), (1, .int a1)], [.ref (b + (q + 15))]) (fun _ _ => rfl) ?_
  refine rx_inv rfl rfl (rc_X3_orderSections hP hq hN) rfl rfl rfl (q_recv (wl_15 hP hq)) rfl rfl ?_
  refine rx_k 2 (6, [(2, .int 0), (0, .ref (b + (q + 15))), (1, .int a1)], []) (fun _ _ => rfl) ?_
  refine rx_lo am_X3_layOut (lo := [(0, .ref (b + (q + 15))), (1, .int a1), (2, .int 0)]) (List.forall_mem_cons.mpr ⟨List.mem_of_getElem? (i := 1) rfl, (List.forall_mem_cons.mpr ⟨List.mem_of_getElem? (i := 2) rfl, (List.forall_mem_cons.mpr ⟨List.mem_of_getElem? (i := 0) rfl, (fun _ h => absurd h List.not_mem_nil)⟩)⟩)⟩) rfl ?_
  refine rx_loop2s (B := B_X3_layOut_6 q a1) (fr := (fr_X3_layOut_6 b w q a1)) (E := (fe_X3_layOut_6 b w q a1)) (I := fun z2 zs => NN zs) (fun z2 zs oo hh9 hI9 hv9 hc9 he9 => b_X3_layOut_6 hP hq oo hh9 hI9 hv9 hc9 he9) (fun z2 zs hz => nb_X3_layOut_6 hq hz) BIG 0 (D_X3_orderSections q s) _ _ (nn_X3_orderSections hq hN) (by decide : (0 : Int) ≤ (0 : Int32).toInt) (le_enough (by decide : (0 : Int) ≤ (0 : Int32).toInt)) ?_
  rw [(show (D_X3_layOut q s a1) = (R_X3_layOut_42 q ((itr (uc2 (B_X3_layOut_6 q a1)) BIG (0, (D_X3_orderSections q s))).2)) from rfl)]
  exact r_X3_layOut_42 hP hq (itr_inv2 (B := B_X3_layOut_6 q a1) (I := fun z2 zs => NN zs) (fun z2 zs hz => nb_X3_layOut_6 hq hz) BIG 0 (D_X3_orderSections q s) (nn_X3_orderSections hq hN))
theorem rc_X3_layOut (hP : WOK b w H0) {q : Nat} (hq : q = 38 ∨ q = 60) {s : Sg} {a1 : Int32} (hN : NN s) : Rc sc 5 31 [.ref (b + (q + 15)), .int a1] (wd b w wl H0 s, kn) none (wd b w wl H0 (D_X3_layOut q s a1), kn) := rx_mc (m_X3_layOut hP hq hN) rfl rfl (Nat.ble_eq_true_of_le (Nat.le_refl _)) (Nat.ble_eq_true_of_le (Nat.le_refl _))
theorem nn_X3_layOut {q : Nat} (hq : q = 38 ∨ q = 60) {s : Sg} {a1 : Int32} (hN : NN s) : NN (D_X3_layOut q s a1) := by
  rw [show (D_X3_layOut q s a1) = (R_X3_layOut_42 q ((itr (uc2 (B_X3_layOut_6 q a1)) BIG (0, (D_X3_orderSections q s))).2)) from rfl]
  exact (nr_X3_layOut_42 hq (itr_inv2 (B := B_X3_layOut_6 q a1) (I := fun z2 zs => NN zs) (fun z2 zs hz => nb_X3_layOut_6 hq hz) BIG 0 (D_X3_orderSections q s) (nn_X3_orderSections hq hN)))
theorem fwb_X3_layOut_6 {q : Nat} {a1 : Int32} {x2 : Int32} {s : Sg} {k j : Nat} (l15f5 : k ≠ q + 15 ∨ j ≠ 5) (l15f11 : k ≠ q + 15 ∨ j ≠ 11) (l15f12 : k ≠ q + 15 ∨ j ≠ 12) (l16 : k ≠ q + 16) (l17 : k ≠ q + 17) (l18 : k ≠ q + 18) (l19 : k ≠ q + 19) (l20 : k ≠ q + 20) (l21 : k ≠ q + 21) : ∃ (f : Bool) (t2 : Int32) (ts : Sg), (B_X3_layOut_6 q a1 x2 s) = (f, (t2, ts)) ∧ ts k j = s k j := by
  by_cases c0 : 192 < x2
  · exact ⟨_, _, _, (show (B_X3_layOut_6 q a1 x2 s) = (false, (x2, s)) from ((if_pos c0).trans rfl)), rfl⟩
  · by_cases c1 : (D_X3_lengthenAll q (D_X3_addressNames q (D_X3_placeCommons q (D_X3_placeSections q s))) a1).1 = 0
    · exact ⟨_, _, _, (show (B_X3_layOut_6 q a1 x2 s) = (false, (x2, (D_X3_lengthenAll q (D_X3_addressNames q (D_X3_placeCommons q (D_X3_placeSections q s))) a1).2)) from ((if_neg c0).trans ((if_pos c1).trans rfl))), ((fw_X3_lengthenAll l19 l20).trans ((fw_X3_addressNames l21).trans ((fw_X3_placeCommons l15f11 l15f12 l21).trans ((fw_X3_placeSections l15f11 l15f12 l17 l18).trans rfl))))⟩
    · exact ⟨_, _, _, (show (B_X3_layOut_6 q a1 x2 s) = (true, ((x2 + 1), (D_X3_lengthenAll q (D_X3_addressNames q (D_X3_placeCommons q (D_X3_placeSections q s))) a1).2)) from ((if_neg c0).trans ((if_neg c1).trans rfl))), ((fw_X3_lengthenAll l19 l20).trans ((fw_X3_addressNames l21).trans ((fw_X3_placeCommons l15f11 l15f12 l21).trans ((fw_X3_placeSections l15f11 l15f12 l17 l18).trans rfl))))⟩
theorem fwr_X3_layOut_42 {q : Nat} {s : Sg} {k j : Nat} (l15f5 : k ≠ q + 15 ∨ j ≠ 5) (l15f11 : k ≠ q + 15 ∨ j ≠ 11) (l15f12 : k ≠ q + 15 ∨ j ≠ 12) (l16 : k ≠ q + 16) (l17 : k ≠ q + 17) (l18 : k ≠ q + 18) (l19 : k ≠ q + 19) (l20 : k ≠ q + 20) (l21 : k ≠ q + 21) : (R_X3_layOut_42 q s) k j = s k j := by
  rw [show (R_X3_layOut_42 q s) = s from rfl]
  first | done | exact rfl
theorem fw_X3_layOut {q : Nat} {s : Sg} {a1 : Int32} {k j : Nat} (l15f5 : k ≠ q + 15 ∨ j ≠ 5) (l15f11 : k ≠ q + 15 ∨ j ≠ 11) (l15f12 : k ≠ q + 15 ∨ j ≠ 12) (l16 : k ≠ q + 16) (l17 : k ≠ q + 17) (l18 : k ≠ q + 18) (l19 : k ≠ q + 19) (l20 : k ≠ q + 20) (l21 : k ≠ q + 21) : (D_X3_layOut q s a1) k j = s k j := by
  rw [show (D_X3_layOut q s a1) = (R_X3_layOut_42 q ((itr (uc2 (B_X3_layOut_6 q a1)) BIG (0, (D_X3_orderSections q s))).2)) from rfl]
  first | done | exact ((fwr_X3_layOut_42 l15f5 l15f11 l15f12 l16 l17 l18 l19 l20 l21).trans ((itr_inv2 (B := B_X3_layOut_6 q a1) (I := fun z2 zs => zs k j = (D_X3_orderSections q s) k j) (fun z2 zs hz => exq2 (fwb_X3_layOut_6 l15f5 l15f11 l15f12 l16 l17 l18 l19 l20 l21) hz) BIG 0 (D_X3_orderSections q s) rfl).trans ((fw_X3_orderSections l15f5 l16 l19 l20).trans rfl)))
-- LinkHarbour$LibraryTable.count
noncomputable def D_X4_count (s : Sg) : Int32 := (s 23 13)
theorem m_X4_count (hP : WOK b w H0) {s : Sg} : Rx sc g_X4_count 0 ((0, [(0, .ref (b + 23))], [])) (wd b w wl H0 s, kn) (some (.int (D_X4_count s))) (wd b w wl H0 s, kn) := by
  show Rx sc g_X4_count 0 (0, [(0, .ref (b + 23))], []) (wd b w wl H0 s, kn) (some (.int (D_X4_count s))) (wd b w wl H0 s, kn)
  refine rx_k 1 (1, [(0, .ref (b + 23))], [.ref (b + 23)]) (fun _ _ => rfl) ?_
  refine rx_getf rfl rfl (wg_23 hP) rfl ?_
  rw [(show (D_X4_count s) = (s 23 13) from rfl)]
  exact rx_ri rfl
theorem rc_X4_count (hP : WOK b w H0) {s : Sg} : Rc sc 1 41 [.ref (b + 23)] (wd b w wl H0 s, kn) (some (.int (D_X4_count s))) (wd b w wl H0 s, kn) := rx_mc (m_X4_count hP) rfl rfl (Nat.ble_eq_true_of_le (Nat.le_refl _)) (Nat.ble_eq_true_of_le (Nat.le_refl _))
-- LinkHarbour$LibraryTable.isFull
noncomputable def D_X4_isFull (s : Sg) : Int32 := (if (s 23 13) < 6 then 0 else 1)
theorem m_X4_isFull (hP : WOK b w H0) {s : Sg} : Rx sc g_X4_isFull 0 ((0, [(0, .ref (b + 23))], [])) (wd b w wl H0 s, kn) (some (.int (D_X4_isFull s))) (wd b w wl H0 s, kn) := by
  show Rx sc g_X4_isFull 0 (0, [(0, .ref (b + 23))], []) (wd b w wl H0 s, kn) (some (.int (D_X4_isFull s))) (wd b w wl H0 s, kn)
  refine rx_k 1 (1, [(0, .ref (b + 23))], [.ref (b + 23)]) (fun _ _ => rfl) ?_
  refine rx_getf rfl rfl (wg_23 hP) rfl ?_
  refine rx_k 1 (6, [(0, .ref (b + 23))], [.int 6, .int (s 23 13)]) (fun _ _ => rfl) ?_
  by_cases c0 : (s 23 13) < 6
  · refine rx_icT rfl (bt c0) ?_
    refine rx_k 1 (14, [(0, .ref (b + 23))], [.int 0]) (fun _ _ => rfl) ?_
    rw [(show (D_X4_isFull s) = 0 from ((if_pos c0).trans rfl))]
    exact rx_ri rfl
  · refine rx_icF rfl (bf c0) rfl ?_
    refine rx_k 2 (14, [(0, .ref (b + 23))], [.int 1]) (fun _ _ => rfl) ?_
    rw [(show (D_X4_isFull s) = 1 from ((if_neg c0).trans rfl))]
    exact rx_ri rfl
theorem bz_X4_isFull {s : Sg} : bz (D_X4_isFull s) = true := by
  by_cases c0 : (s 23 13) < 6
  · rw [show (D_X4_isFull s) = 0 from ((if_pos c0).trans rfl)]
    exact rfl
  · rw [show (D_X4_isFull s) = 1 from ((if_neg c0).trans rfl)]
    exact rfl
theorem rc_X4_isFull (hP : WOK b w H0) {s : Sg} : Rc sc 1 42 [.ref (b + 23)] (wd b w wl H0 s, kn) (some (.int (D_X4_isFull s))) (wd b w wl H0 s, kn) := rx_mc (m_X4_isFull hP) rfl (bz_X4_isFull ..) (Nat.ble_eq_true_of_le (Nat.le_refl _)) (Nat.ble_eq_true_of_le (Nat.le_refl _))
theorem nf_X4_isFull {s : Sg} (h : D_X4_isFull s = 0) : ¬ 6 ≤ s 23 13 := by
  unfold D_X4_isFull at h
  split at h
  · exact Int32.not_le.mpr (by assumption)
  · cases h
-- LinkHarbour$LibraryTable.has
noncomputable def D_X4_has (s : Sg) (a1 : Int32) : Int32 := (if a1 < 0 then 0 else (if (s 23 13) ≤ a1 then 0 else (if 6 ≤ a1 then 0 else 1)))
theorem m_X4_has (hP : WOK b w H0) {s : Sg} {a1 : Int32} : Rx sc g_X4_has 0 ((0, [(0, .ref (b + 23)), (1, .int a1)], [])) (wd b w wl H0 s, kn) (some (.int (D_X4_has s a1))) (wd b w wl H0 s, kn) := by
  show Rx sc g_X4_has 0 (0, [(0, .ref (b + 23)), (1, .int a1)], []) (wd b w wl H0 s, kn) (some (.int (D_X4_has s a1))) (wd b w wl H0 s, kn)
  refine rx_k 1 (1, [(0, .ref (b + 23)), (1, .int a1)], [.int a1]) (fun _ _ => rfl) ?_
  by_cases c0 : a1 < 0
  · refine rx_ifT rfl (bt c0) ?_
    refine rx_k 1 (23, [(0, .ref (b + 23)), (1, .int a1)], [.int 0]) (fun _ _ => rfl) ?_
    rw [(show (D_X4_has s a1) = 0 from ((if_pos c0).trans rfl))]
    exact rx_ri rfl
  · refine rx_ifF rfl (bf c0) rfl ?_
    refine rx_k 2 (6, [(0, .ref (b + 23)), (1, .int a1)], [.ref (b + 23), .int a1]) (fun _ _ => rfl) ?_
    refine rx_getf rfl rfl (wg_23 hP) rfl ?_
    by_cases c1 : (s 23 13) ≤ a1
    · refine rx_icT rfl (bt c1) ?_
      refine rx_k 1 (23, [(0, .ref (b + 23)), (1, .int a1)], [.int 0]) (fun _ _ => rfl) ?_
      rw [(show (D_X4_has s a1) = 0 from ((if_neg c0).trans ((if_pos c1).trans rfl)))]
      exact rx_ri rfl
    · refine rx_icF rfl (bf c1) rfl ?_
      refine rx_k 2 (15, [(0, .ref (b + 23)), (1, .int a1)], [.int 6, .int a1]) (fun _ _ => rfl) ?_
      by_cases c2 : 6 ≤ a1
      · refine rx_icT rfl (bt c2) ?_
        refine rx_k 1 (23, [(0, .ref (b + 23)), (1, .int a1)], [.int 0]) (fun _ _ => rfl) ?_
        rw [(show (D_X4_has s a1) = 0 from ((if_neg c0).trans ((if_neg c1).trans ((if_pos c2).trans rfl))))]
        exact rx_ri rfl
      · refine rx_icF rfl (bf c2) rfl ?_
        refine rx_k 2 (23, [(0, .ref (b + 23)), (1, .int a1)], [.int 1]) (fun _ _ => rfl) ?_
        rw [(show (D_X4_has s a1) = 1 from ((if_neg c0).trans ((if_neg c1).trans ((if_neg c2).trans rfl))))]
        exact rx_ri rfl
theorem bz_X4_has {s : Sg} {a1 : Int32} : bz (D_X4_has s a1) = true := by
  by_cases c0 : a1 < 0
  · rw [show (D_X4_has s a1) = 0 from ((if_pos c0).trans rfl)]
    exact rfl
  · by_cases c1 : (s 23 13) ≤ a1
    · rw [show (D_X4_has s a1) = 0 from ((if_neg c0).trans ((if_pos c1).trans rfl))]
      exact rfl
    · by_cases c2 : 6 ≤ a1
      · rw [show (D_X4_has s a1) = 0 from ((if_neg c0).trans ((if_neg c1).trans ((if_pos c2).trans rfl)))]
        exact rfl
      · rw [show (D_X4_has s a1) = 1 from ((if_neg c0).trans ((if_neg c1).trans ((if_neg c2).trans rfl)))]
        exact rfl
theorem rc_X4_has (hP : WOK b w H0) {s : Sg} {a1 : Int32} : Rc sc 1 43 [.ref (b + 23), .int a1] (wd b w wl H0 s, kn) (some (.int (D_X4_has s a1))) (wd b w wl H0 s, kn) := rx_mc (m_X4_has hP) rfl (bz_X4_has ..) (Nat.ble_eq_true_of_le (Nat.le_refl _)) (Nat.ble_eq_true_of_le (Nat.le_refl _))
theorem rg_X4_has {s : Sg} {a : Int32} (h : ¬ D_X4_has s a = 0) : rg a 6 := by
  unfold D_X4_has at h
  split at h <;> first | exact absurd rfl h | skip
  split at h <;> first | exact absurd rfl h | skip
  split at h <;> first | exact absurd rfl h | skip
  exact rg_b (by assumption) (by assumption) (m := 6) rfl
theorem has_4 {s : Sg} {a : Int32} (h1 : 0 ≤ a.toInt) (h2 : ¬ D_X4_count s ≤ a) (h3 : (s 23 13).toInt ≤ 6) : ¬ D_X4_has s a = 0 := by
  have h4 : ¬ s 23 13 ≤ a := h2
  have h5 : a.toInt < (s 23 13).toInt := Int32.lt_iff_toInt_lt.mp (Int32.not_le.mp h4)
  unfold D_X4_has
  rw [if_neg (n_lt h1), if_neg h4, if_neg (n_le (m := 6) (n := 6) (by omega) rfl)]
  decide
-- LinkHarbour$LibraryTable.size
noncomputable def D_X4_size (s : Sg) (a1 : Int32) : Int32 := (if (D_X4_has s a1) = 0 then 0 else (s 24 a1.toNatClampNeg))
theorem m_X4_size (hP : WOK b w H0) {s : Sg} {a1 : Int32} : Rx sc g_X4_size 1 ((0, [(0, .ref (b + 23)), (1, .int a1)], [])) (wd b w wl H0 s, kn) (some (.int (D_X4_size s a1))) (wd b w wl H0 s, kn) := by
  show Rx sc g_X4_size 1 (0, [(0, .ref (b + 23)), (1, .int a1)], []) (wd b w wl H0 s, kn) (some (.int (D_X4_size s a1))) (wd b w wl H0 s, kn)
  refine rx_k 2 (2, [(0, .ref (b + 23)), (1, .int a1)], [.int a1, .ref (b + 23)]) (fun _ _ => rfl) ?_
  refine rx_inv rfl rfl (rc_X4_has hP) rfl rfl rfl (q_recv (wg_23 hP)) rfl rfl ?_
  by_cases c0 : (D_X4_has s a1) = 0
  · refine rx_ifT rfl (bt c0) ?_
    refine rx_k 1 (18, [(0, .ref (b + 23)), (1, .int a1)], [.int 0]) (fun _ _ => rfl) ?_
    rw [(show (D_X4_size s a1) = 0 from ((if_pos c0).trans rfl))]
    exact rx_ri rfl
  · refine rx_ifF rfl (bf c0) rfl ?_
    refine rx_k 1 (9, [(0, .ref (b + 23)), (1, .int a1)], [.ref (b + 23)]) (fun _ _ => rfl) ?_
    refine rx_getf rfl rfl (wg_23 hP) rfl ?_
    refine rx_k 1 (13, [(0, .ref (b + 23)), (1, .int a1)], [.int a1, .ref (b + 24)]) (fun _ _ => rfl) ?_
    refine rx_ild rfl rfl (wg_24 hP) (ar_at (rg_X4_has c0)) ?_
    refine rx_k 1 (18, [(0, .ref (b + 23)), (1, .int a1)], [.int (s 24 a1.toNatClampNeg)]) (fun _ _ => rfl) ?_
    rw [(show (D_X4_size s a1) = (s 24 a1.toNatClampNeg) from ((if_neg c0).trans rfl))]
    exact rx_ri rfl
theorem rc_X4_size (hP : WOK b w H0) {s : Sg} {a1 : Int32} : Rc sc 2 44 [.ref (b + 23), .int a1] (wd b w wl H0 s, kn) (some (.int (D_X4_size s a1))) (wd b w wl H0 s, kn) := rx_mc (m_X4_size hP) rfl rfl (Nat.ble_eq_true_of_le (Nat.le_refl _)) (Nat.ble_eq_true_of_le (Nat.le_refl _))
-- LinkHarbour$LibraryTable.needs
noncomputable def D_X4_needs (s : Sg) (a1 : Int32) : Int32 := (if (D_X4_has s a1) = 0 then 0 else (s 25 a1.toNatClampNeg))
theorem m_X4_needs (hP : WOK b w H0) {s : Sg} {a1 : Int32} : Rx sc g_X4_needs 1 ((0, [(0, .ref (b + 23)), (1, .int a1)], [])) (wd b w wl H0 s, kn) (some (.int (D_X4_needs s a1))) (wd b w wl H0 s, kn) := by
  show Rx sc g_X4_needs 1 (0, [(0, .ref (b + 23)), (1, .int a1)], []) (wd b w wl H0 s, kn) (some (.int (D_X4_needs s a1))) (wd b w wl H0 s, kn)
  refine rx_k 2 (2, [(0, .ref (b + 23)), (1, .int a1)], [.int a1, .ref (b + 23)]) (fun _ _ => rfl) ?_
  refine rx_inv rfl rfl (rc_X4_has hP) rfl rfl rfl (q_recv (wg_23 hP)) rfl rfl ?_
  by_cases c0 : (D_X4_has s a1) = 0
  · refine rx_ifT rfl (bt c0) ?_
    refine rx_k 1 (18, [(0, .ref (b + 23)), (1, .int a1)], [.int 0]) (fun _ _ => rfl) ?_
    rw [(show (D_X4_needs s a1) = 0 from ((if_pos c0).trans rfl))]
    exact rx_ri rfl
  · refine rx_ifF rfl (bf c0) rfl ?_
    refine rx_k 1 (9, [(0, .ref (b + 23)), (1, .int a1)], [.ref (b + 23)]) (fun _ _ => rfl) ?_
    refine rx_getf rfl rfl (wg_23 hP) rfl ?_
    refine rx_k 1 (13, [(0, .ref (b + 23)), (1, .int a1)], [.int a1, .ref (b + 25)]) (fun _ _ => rfl) ?_
    refine rx_ild rfl rfl (wg_25 hP) (ar_at (rg_X4_has c0)) ?_
    refine rx_k 1 (18, [(0, .ref (b + 23)), (1, .int a1)], [.int (s 25 a1.toNatClampNeg)]) (fun _ _ => rfl) ?_
    rw [(show (D_X4_needs s a1) = (s 25 a1.toNatClampNeg) from ((if_neg c0).trans rfl))]
    exact rx_ri rfl
theorem rc_X4_needs (hP : WOK b w H0) {s : Sg} {a1 : Int32} : Rc sc 2 45 [.ref (b + 23), .int a1] (wd b w wl H0 s, kn) (some (.int (D_X4_needs s a1))) (wd b w wl H0 s, kn) := rx_mc (m_X4_needs hP) rfl rfl (Nat.ble_eq_true_of_le (Nat.le_refl _)) (Nat.ble_eq_true_of_le (Nat.le_refl _))
-- LinkHarbour$LibraryTable.exports
noncomputable def D_X4_exports (s : Sg) (a1 : Int32) : Int32 := (if (D_X4_has s a1) = 0 then 0 else (s 26 a1.toNatClampNeg))
theorem m_X4_exports (hP : WOK b w H0) {s : Sg} {a1 : Int32} : Rx sc g_X4_exports 1 ((0, [(0, .ref (b + 23)), (1, .int a1)], [])) (wd b w wl H0 s, kn) (some (.int (D_X4_exports s a1))) (wd b w wl H0 s, kn) := by
  show Rx sc g_X4_exports 1 (0, [(0, .ref (b + 23)), (1, .int a1)], []) (wd b w wl H0 s, kn) (some (.int (D_X4_exports s a1))) (wd b w wl H0 s, kn)
  refine rx_k 2 (2, [(0, .ref (b + 23)), (1, .int a1)], [.int a1, .ref (b + 23)]) (fun _ _ => rfl) ?_
  refine rx_inv rfl rfl (rc_X4_has hP) rfl rfl rfl (q_recv (wg_23 hP)) rfl rfl ?_
  by_cases c0 : (D_X4_has s a1) = 0
  · refine rx_ifT rfl (bt c0) ?_
    refine rx_k 1 (18, [(0, .ref (b + 23)), (1, .int a1)], [.int 0]) (fun _ _ => rfl) ?_
    rw [(show (D_X4_exports s a1) = 0 from ((if_pos c0).trans rfl))]
    exact rx_ri rfl
  · refine rx_ifF rfl (bf c0) rfl ?_
    refine rx_k 1 (9, [(0, .ref (b + 23)), (1, .int a1)], [.ref (b + 23)]) (fun _ _ => rfl) ?_
    refine rx_getf rfl rfl (wg_23 hP) rfl ?_
    refine rx_k 1 (13, [(0, .ref (b + 23)), (1, .int a1)], [.int a1, .ref (b + 26)]) (fun _ _ => rfl) ?_
    refine rx_ild rfl rfl (wg_26 hP) (ar_at (rg_X4_has c0)) ?_
    refine rx_k 1 (18, [(0, .ref (b + 23)), (1, .int a1)], [.int (s 26 a1.toNatClampNeg)]) (fun _ _ => rfl) ?_
    rw [(show (D_X4_exports s a1) = (s 26 a1.toNatClampNeg) from ((if_neg c0).trans rfl))]
    exact rx_ri rfl
theorem rc_X4_exports (hP : WOK b w H0) {s : Sg} {a1 : Int32} : Rc sc 2 46 [.ref (b + 23), .int a1] (wd b w wl H0 s, kn) (some (.int (D_X4_exports s a1))) (wd b w wl H0 s, kn) := rx_mc (m_X4_exports hP) rfl rfl (Nat.ble_eq_true_of_le (Nat.le_refl _)) (Nat.ble_eq_true_of_le (Nat.le_refl _))
-- LinkHarbour$LibraryTable.imports
noncomputable def D_X4_imports (s : Sg) (a1 : Int32) : Int32 := (if (D_X4_has s a1) = 0 then 0 else (s 27 a1.toNatClampNeg))
theorem m_X4_imports (hP : WOK b w H0) {s : Sg} {a1 : Int32} : Rx sc g_X4_imports 1 ((0, [(0, .ref (b + 23)), (1, .int a1)], [])) (wd b w wl H0 s, kn) (some (.int (D_X4_imports s a1))) (wd b w wl H0 s, kn) := by
  show Rx sc g_X4_imports 1 (0, [(0, .ref (b + 23)), (1, .int a1)], []) (wd b w wl H0 s, kn) (some (.int (D_X4_imports s a1))) (wd b w wl H0 s, kn)
  refine rx_k 2 (2, [(0, .ref (b + 23)), (1, .int a1)], [.int a1, .ref (b + 23)]) (fun _ _ => rfl) ?_
  refine rx_inv rfl rfl (rc_X4_has hP) rfl rfl rfl (q_recv (wg_23 hP)) rfl rfl ?_
  by_cases c0 : (D_X4_has s a1) = 0
  · refine rx_ifT rfl (bt c0) ?_
    refine rx_k 1 (18, [(0, .ref (b + 23)), (1, .int a1)], [.int 0]) (fun _ _ => rfl) ?_
    rw [(show (D_X4_imports s a1) = 0 from ((if_pos c0).trans rfl))]
    exact rx_ri rfl
  · refine rx_ifF rfl (bf c0) rfl ?_
    refine rx_k 1 (9, [(0, .ref (b + 23)), (1, .int a1)], [.ref (b + 23)]) (fun _ _ => rfl) ?_
    refine rx_getf rfl rfl (wg_23 hP) rfl ?_
    refine rx_k 1 (13, [(0, .ref (b + 23)), (1, .int a1)], [.int a1, .ref (b + 27)]) (fun _ _ => rfl) ?_
    refine rx_ild rfl rfl (wg_27 hP) (ar_at (rg_X4_has c0)) ?_
    refine rx_k 1 (18, [(0, .ref (b + 23)), (1, .int a1)], [.int (s 27 a1.toNatClampNeg)]) (fun _ _ => rfl) ?_
    rw [(show (D_X4_imports s a1) = (s 27 a1.toNatClampNeg) from ((if_neg c0).trans rfl))]
    exact rx_ri rfl
theorem rc_X4_imports (hP : WOK b w H0) {s : Sg} {a1 : Int32} : Rc sc 2 47 [.ref (b + 23), .int a1] (wd b w wl H0 s, kn) (some (.int (D_X4_imports s a1))) (wd b w wl H0 s, kn) := rx_mc (m_X4_imports hP) rfl rfl (Nat.ble_eq_true_of_le (Nat.le_refl _)) (Nat.ble_eq_true_of_le (Nat.le_refl _))
-- LinkHarbour$LibraryTable.opened
noncomputable def D_X4_opened (s : Sg) (a1 : Int32) : Int32 := (if (D_X4_has s a1) = 0 then 0 else (s 29 a1.toNatClampNeg))
theorem m_X4_opened (hP : WOK b w H0) {s : Sg} {a1 : Int32} : Rx sc g_X4_opened 1 ((0, [(0, .ref (b + 23)), (1, .int a1)], [])) (wd b w wl H0 s, kn) (some (.int (D_X4_opened s a1))) (wd b w wl H0 s, kn) := by
  show Rx sc g_X4_opened 1 (0, [(0, .ref (b + 23)), (1, .int a1)], []) (wd b w wl H0 s, kn) (some (.int (D_X4_opened s a1))) (wd b w wl H0 s, kn)
  refine rx_k 2 (2, [(0, .ref (b + 23)), (1, .int a1)], [.int a1, .ref (b + 23)]) (fun _ _ => rfl) ?_
  refine rx_inv rfl rfl (rc_X4_has hP) rfl rfl rfl (q_recv (wg_23 hP)) rfl rfl ?_
  by_cases c0 : (D_X4_has s a1) = 0
  · refine rx_ifT rfl (bt c0) ?_
    refine rx_k 1 (18, [(0, .ref (b + 23)), (1, .int a1)], [.int 0]) (fun _ _ => rfl) ?_
    rw [(show (D_X4_opened s a1) = 0 from ((if_pos c0).trans rfl))]
    exact rx_ri rfl
  · refine rx_ifF rfl (bf c0) rfl ?_
    refine rx_k 1 (9, [(0, .ref (b + 23)), (1, .int a1)], [.ref (b + 23)]) (fun _ _ => rfl) ?_
    refine rx_getf rfl rfl (wg_23 hP) rfl ?_
    refine rx_k 1 (13, [(0, .ref (b + 23)), (1, .int a1)], [.int a1, .ref (b + 29)]) (fun _ _ => rfl) ?_
    refine rx_ild rfl rfl (wg_29 hP) (ar_at (rg_X4_has c0)) ?_
    refine rx_k 1 (18, [(0, .ref (b + 23)), (1, .int a1)], [.int (s 29 a1.toNatClampNeg)]) (fun _ _ => rfl) ?_
    rw [(show (D_X4_opened s a1) = (s 29 a1.toNatClampNeg) from ((if_neg c0).trans rfl))]
    exact rx_ri rfl
theorem rc_X4_opened (hP : WOK b w H0) {s : Sg} {a1 : Int32} : Rc sc 2 48 [.ref (b + 23), .int a1] (wd b w wl H0 s, kn) (some (.int (D_X4_opened s a1))) (wd b w wl H0 s, kn) := rx_mc (m_X4_opened hP) rfl rfl (Nat.ble_eq_true_of_le (Nat.le_refl _)) (Nat.ble_eq_true_of_le (Nat.le_refl _))
-- LinkHarbour$LibraryTable.base
noncomputable def D_X4_base (s : Sg) (a1 : Int32) : Int32 := (if (D_X4_has s a1) = 0 then (-1) else (s 30 a1.toNatClampNeg))
theorem m_X4_base (hP : WOK b w H0) {s : Sg} {a1 : Int32} : Rx sc g_X4_base 1 ((0, [(0, .ref (b + 23)), (1, .int a1)], [])) (wd b w wl H0 s, kn) (some (.int (D_X4_base s a1))) (wd b w wl H0 s, kn) := by
  show Rx sc g_X4_base 1 (0, [(0, .ref (b + 23)), (1, .int a1)], []) (wd b w wl H0 s, kn) (some (.int (D_X4_base s a1))) (wd b w wl H0 s, kn)
  refine rx_k 2 (2, [(0, .ref (b + 23)), (1, .int a1)], [.int a1, .ref (b + 23)]) (fun _ _ => rfl) ?_
  refine rx_inv rfl rfl (rc_X4_has hP) rfl rfl rfl (q_recv (wg_23 hP)) rfl rfl ?_
  by_cases c0 : (D_X4_has s a1) = 0
  · refine rx_ifT rfl (bt c0) ?_
    refine rx_k 1 (18, [(0, .ref (b + 23)), (1, .int a1)], [.int (-1)]) (fun _ _ => rfl) ?_
    rw [(show (D_X4_base s a1) = (-1) from ((if_pos c0).trans rfl))]
    exact rx_ri rfl
  · refine rx_ifF rfl (bf c0) rfl ?_
    refine rx_k 1 (9, [(0, .ref (b + 23)), (1, .int a1)], [.ref (b + 23)]) (fun _ _ => rfl) ?_
    refine rx_getf rfl rfl (wg_23 hP) rfl ?_
    refine rx_k 1 (13, [(0, .ref (b + 23)), (1, .int a1)], [.int a1, .ref (b + 30)]) (fun _ _ => rfl) ?_
    refine rx_ild rfl rfl (wg_30 hP) (ar_at (rg_X4_has c0)) ?_
    refine rx_k 1 (18, [(0, .ref (b + 23)), (1, .int a1)], [.int (s 30 a1.toNatClampNeg)]) (fun _ _ => rfl) ?_
    rw [(show (D_X4_base s a1) = (s 30 a1.toNatClampNeg) from ((if_neg c0).trans rfl))]
    exact rx_ri rfl
theorem rc_X4_base (hP : WOK b w H0) {s : Sg} {a1 : Int32} : Rc sc 2 49 [.ref (b + 23), .int a1] (wd b w wl H0 s, kn) (some (.int (D_X4_base s a1))) (wd b w wl H0 s, kn) := rx_mc (m_X4_base hP) rfl rfl (Nat.ble_eq_true_of_le (Nat.le_refl _)) (Nat.ble_eq_true_of_le (Nat.le_refl _))
-- LinkHarbour$LibraryTable.isLoaded
noncomputable def D_X4_isLoaded (s : Sg) (a1 : Int32) : Int32 := (if (D_X4_base s a1) = (-1) then 0 else 1)
theorem m_X4_isLoaded (hP : WOK b w H0) {s : Sg} {a1 : Int32} : Rx sc g_X4_isLoaded 2 ((0, [(0, .ref (b + 23)), (1, .int a1)], [])) (wd b w wl H0 s, kn) (some (.int (D_X4_isLoaded s a1))) (wd b w wl H0 s, kn) := by
  show Rx sc g_X4_isLoaded 2 (0, [(0, .ref (b + 23)), (1, .int a1)], []) (wd b w wl H0 s, kn) (some (.int (D_X4_isLoaded s a1))) (wd b w wl H0 s, kn)
  refine rx_k 2 (2, [(0, .ref (b + 23)), (1, .int a1)], [.int a1, .ref (b + 23)]) (fun _ _ => rfl) ?_
  refine rx_inv rfl rfl (rc_X4_base hP) rfl rfl rfl (q_recv (wg_23 hP)) rfl rfl ?_
  refine rx_k 1 (6, [(0, .ref (b + 23)), (1, .int a1)], [.int (-1), .int (D_X4_base s a1)]) (fun _ _ => rfl) ?_
  by_cases c0 : (D_X4_base s a1) = (-1)
  · refine rx_icT rfl (bt c0) ?_
    refine rx_k 1 (14, [(0, .ref (b + 23)), (1, .int a1)], [.int 0]) (fun _ _ => rfl) ?_
    rw [(show (D_X4_isLoaded s a1) = 0 from ((if_pos c0).trans rfl))]
    exact rx_ri rfl
  · refine rx_icF rfl (bf c0) rfl ?_
    refine rx_k 2 (14, [(0, .ref (b + 23)), (1, .int a1)], [.int 1]) (fun _ _ => rfl) ?_
    rw [(show (D_X4_isLoaded s a1) = 1 from ((if_neg c0).trans rfl))]
    exact rx_ri rfl
theorem bz_X4_isLoaded {s : Sg} {a1 : Int32} : bz (D_X4_isLoaded s a1) = true := by
  by_cases c0 : (D_X4_base s a1) = (-1)
  · rw [show (D_X4_isLoaded s a1) = 0 from ((if_pos c0).trans rfl)]
    exact rfl
  · rw [show (D_X4_isLoaded s a1) = 1 from ((if_neg c0).trans rfl)]
    exact rfl
theorem rc_X4_isLoaded (hP : WOK b w H0) {s : Sg} {a1 : Int32} : Rc sc 3 50 [.ref (b + 23), .int a1] (wd b w wl H0 s, kn) (some (.int (D_X4_isLoaded s a1))) (wd b w wl H0 s, kn) := rx_mc (m_X4_isLoaded hP) rfl (bz_X4_isLoaded ..) (Nat.ble_eq_true_of_le (Nat.le_refl _)) (Nat.ble_eq_true_of_le (Nat.le_refl _))
-- LinkHarbour$LibraryTable.isExport
noncomputable def D_X4_isExport (s : Sg) (a1 : Int32) (a2 : Int32) : Int32 := (if (D_X11_isName a2) = 0 then 0 else (if (D_X11_hasBit (D_X4_exports s a1) a2) = 0 then 0 else 1))
theorem m_X4_isExport (hP : WOK b w H0) {s : Sg} {a1 : Int32} {a2 : Int32} : Rx sc g_X4_isExport 2 ((0, [(0, .ref (b + 23)), (1, .int a1), (2, .int a2)], [])) (wd b w wl H0 s, kn) (some (.int (D_X4_isExport s a1 a2))) (wd b w wl H0 s, kn) := by
  show Rx sc g_X4_isExport 2 (0, [(0, .ref (b + 23)), (1, .int a1), (2, .int a2)], []) (wd b w wl H0 s, kn) (some (.int (D_X4_isExport s a1 a2))) (wd b w wl H0 s, kn)
  refine rx_k 1 (1, [(0, .ref (b + 23)), (1, .int a1), (2, .int a2)], [.int a2]) (fun _ _ => rfl) ?_
  refine rx_inv rfl rfl (rc_X11_isName) rfl rfl rfl rfl rfl rfl ?_
  by_cases c0 : (D_X11_isName a2) = 0
  · refine rx_ifT rfl (bt c0) ?_
    refine rx_k 1 (24, [(0, .ref (b + 23)), (1, .int a1), (2, .int a2)], [.int 0]) (fun _ _ => rfl) ?_
    rw [(show (D_X4_isExport s a1 a2) = 0 from ((if_pos c0).trans rfl))]
    exact rx_ri rfl
  · refine rx_ifF rfl (bf c0) rfl ?_
    refine rx_k 2 (9, [(0, .ref (b + 23)), (1, .int a1), (2, .int a2)], [.int a1, .ref (b + 23)]) (fun _ _ => rfl) ?_
    refine rx_inv rfl rfl (rc_X4_exports hP) rfl rfl rfl (q_recv (wg_23 hP)) rfl rfl ?_
    refine rx_k 1 (13, [(0, .ref (b + 23)), (1, .int a1), (2, .int a2)], [.int a2, .int (D_X4_exports s a1)]) (fun _ _ => rfl) ?_
    refine rx_inv rfl rfl (rc_X11_hasBit) rfl rfl rfl rfl rfl rfl ?_
    by_cases c1 : (D_X11_hasBit (D_X4_exports s a1) a2) = 0
    · refine rx_ifT rfl (bt c1) ?_
      refine rx_k 1 (24, [(0, .ref (b + 23)), (1, .int a1), (2, .int a2)], [.int 0]) (fun _ _ => rfl) ?_
      rw [(show (D_X4_isExport s a1 a2) = 0 from ((if_neg c0).trans ((if_pos c1).trans rfl)))]
      exact rx_ri rfl
    · refine rx_ifF rfl (bf c1) rfl ?_
      refine rx_k 2 (24, [(0, .ref (b + 23)), (1, .int a1), (2, .int a2)], [.int 1]) (fun _ _ => rfl) ?_
      rw [(show (D_X4_isExport s a1 a2) = 1 from ((if_neg c0).trans ((if_neg c1).trans rfl)))]
      exact rx_ri rfl
theorem bz_X4_isExport {s : Sg} {a1 : Int32} {a2 : Int32} : bz (D_X4_isExport s a1 a2) = true := by
  by_cases c0 : (D_X11_isName a2) = 0
  · rw [show (D_X4_isExport s a1 a2) = 0 from ((if_pos c0).trans rfl)]
    exact rfl
  · by_cases c1 : (D_X11_hasBit (D_X4_exports s a1) a2) = 0
    · rw [show (D_X4_isExport s a1 a2) = 0 from ((if_neg c0).trans ((if_pos c1).trans rfl))]
      exact rfl
    · rw [show (D_X4_isExport s a1 a2) = 1 from ((if_neg c0).trans ((if_neg c1).trans rfl))]
      exact rfl
theorem rc_X4_isExport (hP : WOK b w H0) {s : Sg} {a1 : Int32} {a2 : Int32} : Rc sc 3 51 [.ref (b + 23), .int a1, .int a2] (wd b w wl H0 s, kn) (some (.int (D_X4_isExport s a1 a2))) (wd b w wl H0 s, kn) := rx_mc (m_X4_isExport hP) rfl (bz_X4_isExport ..) (Nat.ble_eq_true_of_le (Nat.le_refl _)) (Nat.ble_eq_true_of_le (Nat.le_refl _))
theorem rg_X4_isExport {s : Sg} {a c : Int32} (h : ¬ D_X4_isExport s a c = 0) : rg c 20 := by
  unfold D_X4_isExport at h
  split at h <;> first | exact absurd rfl h | skip
  exact rg_isName (by assumption)
-- LinkHarbour$LibraryTable.isImport
noncomputable def D_X4_isImport (s : Sg) (a1 : Int32) (a2 : Int32) : Int32 := (if (D_X11_isName a2) = 0 then 0 else (if (D_X11_hasBit (D_X4_imports s a1) a2) = 0 then 0 else 1))
theorem m_X4_isImport (hP : WOK b w H0) {s : Sg} {a1 : Int32} {a2 : Int32} : Rx sc g_X4_isImport 2 ((0, [(0, .ref (b + 23)), (1, .int a1), (2, .int a2)], [])) (wd b w wl H0 s, kn) (some (.int (D_X4_isImport s a1 a2))) (wd b w wl H0 s, kn) := by
  show Rx sc g_X4_isImport 2 (0, [(0, .ref (b + 23)), (1, .int a1), (2, .int a2)], []) (wd b w wl H0 s, kn) (some (.int (D_X4_isImport s a1 a2))) (wd b w wl H0 s, kn)
  refine rx_k 1 (1, [(0, .ref (b + 23)), (1, .int a1), (2, .int a2)], [.int a2]) (fun _ _ => rfl) ?_
  refine rx_inv rfl rfl (rc_X11_isName) rfl rfl rfl rfl rfl rfl ?_
  by_cases c0 : (D_X11_isName a2) = 0
  · refine rx_ifT rfl (bt c0) ?_
    refine rx_k 1 (24, [(0, .ref (b + 23)), (1, .int a1), (2, .int a2)], [.int 0]) (fun _ _ => rfl) ?_
    rw [(show (D_X4_isImport s a1 a2) = 0 from ((if_pos c0).trans rfl))]
    exact rx_ri rfl
  · refine rx_ifF rfl (bf c0) rfl ?_
    refine rx_k 2 (9, [(0, .ref (b + 23)), (1, .int a1), (2, .int a2)], [.int a1, .ref (b + 23)]) (fun _ _ => rfl) ?_
    refine rx_inv rfl rfl (rc_X4_imports hP) rfl rfl rfl (q_recv (wg_23 hP)) rfl rfl ?_
    refine rx_k 1 (13, [(0, .ref (b + 23)), (1, .int a1), (2, .int a2)], [.int a2, .int (D_X4_imports s a1)]) (fun _ _ => rfl) ?_
    refine rx_inv rfl rfl (rc_X11_hasBit) rfl rfl rfl rfl rfl rfl ?_
    by_cases c1 : (D_X11_hasBit (D_X4_imports s a1) a2) = 0
    · refine rx_ifT rfl (bt c1) ?_
      refine rx_k 1 (24, [(0, .ref (b + 23)), (1, .int a1), (2, .int a2)], [.int 0]) (fun _ _ => rfl) ?_
      rw [(show (D_X4_isImport s a1 a2) = 0 from ((if_neg c0).trans ((if_pos c1).trans rfl)))]
      exact rx_ri rfl
    · refine rx_ifF rfl (bf c1) rfl ?_
      refine rx_k 2 (24, [(0, .ref (b + 23)), (1, .int a1), (2, .int a2)], [.int 1]) (fun _ _ => rfl) ?_
      rw [(show (D_X4_isImport s a1 a2) = 1 from ((if_neg c0).trans ((if_neg c1).trans rfl)))]
      exact rx_ri rfl
theorem bz_X4_isImport {s : Sg} {a1 : Int32} {a2 : Int32} : bz (D_X4_isImport s a1 a2) = true := by
  by_cases c0 : (D_X11_isName a2) = 0
  · rw [show (D_X4_isImport s a1 a2) = 0 from ((if_pos c0).trans rfl)]
    exact rfl
  · by_cases c1 : (D_X11_hasBit (D_X4_imports s a1) a2) = 0
    · rw [show (D_X4_isImport s a1 a2) = 0 from ((if_neg c0).trans ((if_pos c1).trans rfl))]
      exact rfl
    · rw [show (D_X4_isImport s a1 a2) = 1 from ((if_neg c0).trans ((if_neg c1).trans rfl))]
      exact rfl
theorem rc_X4_isImport (hP : WOK b w H0) {s : Sg} {a1 : Int32} {a2 : Int32} : Rc sc 3 52 [.ref (b + 23), .int a1, .int a2] (wd b w wl H0 s, kn) (some (.int (D_X4_isImport s a1 a2))) (wd b w wl H0 s, kn) := rx_mc (m_X4_isImport hP) rfl (bz_X4_isImport ..) (Nat.ble_eq_true_of_le (Nat.le_refl _)) (Nat.ble_eq_true_of_le (Nat.le_refl _))
-- LinkHarbour$LibraryTable.exportAddress
noncomputable def D_X4_exportAddress (s : Sg) (a1 : Int32) (a2 : Int32) : Int32 := (if (D_X4_isExport s a1 a2) = 0 then (-1) else (if (D_X4_has s a1) = 0 then (-1) else (s 28 ((a1 * 20) + a2).toNatClampNeg)))
theorem m_X4_exportAddress (hP : WOK b w H0) {s : Sg} {a1 : Int32} {a2 : Int32} : Rx sc g_X4_exportAddress 3 ((0, [(0, .ref (b + 23)), (1, .int a1), (2, .int a2)], [])) (wd b w wl H0 s, kn) (some (.int (D_X4_exportAddress s a1 a2))) (wd b w wl H0 s, kn) := by
  show Rx sc g_X4_exportAddress 3 (0, [(0, .ref (b + 23)), (1, .int a1), (2, .int a2)], []) (wd b w wl H0 s, kn) (some (.int (D_X4_exportAddress s a1 a2))) (wd b w wl H0 s, kn)
  refine rx_k 3 (3, [(0, .ref (b + 23)), (1, .int a1), (2, .int a2)], [.int a2, .int a1, .ref (b + 23)]) (fun _ _ => rfl) ?_
  refine rx_inv rfl rfl (rc_X4_isExport hP) rfl rfl rfl (q_recv (wg_23 hP)) rfl rfl ?_
  by_cases c0 : (D_X4_isExport s a1 a2) = 0
  · refine rx_ifT rfl (bt c0) ?_
    refine rx_k 1 (32, [(0, .ref (b + 23)), (1, .int a1), (2, .int a2)], [.int (-1)]) (fun _ _ => rfl) ?_
    rw [(show (D_X4_exportAddress s a1 a2) = (-1) from ((if_pos c0).trans rfl))]
    exact rx_ri rfl
  · refine rx_ifF rfl (bf c0) rfl ?_
    refine rx_k 2 (11, [(0, .ref (b + 23)), (1, .int a1), (2, .int a2)], [.int a1, .ref (b + 23)]) (fun _ _ => rfl) ?_
    refine rx_inv rfl rfl (rc_X4_has hP) rfl rfl rfl (q_recv (wg_23 hP)) rfl rfl ?_
    by_cases c1 : (D_X4_has s a1) = 0
    · refine rx_ifT rfl (bt c1) ?_
      refine rx_k 1 (32, [(0, .ref (b + 23)), (1, .int a1), (2, .int a2)], [.int (-1)]) (fun _ _ => rfl) ?_
      rw [(show (D_X4_exportAddress s a1 a2) = (-1) from ((if_neg c0).trans ((if_pos c1).trans rfl)))]
      exact rx_ri rfl
    · refine rx_ifF rfl (bf c1) rfl ?_
      refine rx_k 1 (18, [(0, .ref (b + 23)), (1, .int a1), (2, .int a2)], [.ref (b + 23)]) (fun _ _ => rfl) ?_
      refine rx_getf rfl rfl (wg_23 hP) rfl ?_
      refine rx_k 5 (27, [(0, .ref (b + 23)), (1, .int a1), (2, .int a2)], [.int ((a1 * 20) + a2), .ref (b + 28)]) (fun _ _ => rfl) ?_
      refine rx_ild rfl rfl (wg_28 hP) (ar_at (i_mul_add 20 20 rfl (rg_X4_has c1) (rg_X4_isExport c0) (by decide) (by decide))) ?_
      refine rx_k 1 (32, [(0, .ref (b + 23)), (1, .int a1), (2, .int a2)], [.int (s 28 ((a1 * 20) + a2).toNatClampNeg)]) (fun _ _ => rfl) ?_
      rw [(show (D_X4_exportAddress s a1 a2) = (s 28 ((a1 * 20) + a2).toNatClampNeg) from ((if_neg c0).trans ((if_neg c1).trans rfl)))]
      exact rx_ri rfl
theorem rc_X4_exportAddress (hP : WOK b w H0) {s : Sg} {a1 : Int32} {a2 : Int32} : Rc sc 4 53 [.ref (b + 23), .int a1, .int a2] (wd b w wl H0 s, kn) (some (.int (D_X4_exportAddress s a1 a2))) (wd b w wl H0 s, kn) := rx_mc (m_X4_exportAddress hP) rfl rfl (Nat.ble_eq_true_of_le (Nat.le_refl _)) (Nat.ble_eq_true_of_le (Nat.le_refl _))
-- LinkHarbour$LibraryTable.boundTo
noncomputable def D_X4_boundTo (s : Sg) (a1 : Int32) (a2 : Int32) : Int32 := (if (D_X4_has s a1) = 0 then (-1) else (if (D_X11_isName a2) = 0 then (-1) else (s 31 ((a1 * 20) + a2).toNatClampNeg)))
theorem m_X4_boundTo (hP : WOK b w H0) {s : Sg} {a1 : Int32} {a2 : Int32} : Rx sc g_X4_boundTo 1 ((0, [(0, .ref (b + 23)), (1, .int a1), (2, .int a2)], [])) (wd b w wl H0 s, kn) (some (.int (D_X4_boundTo s a1 a2))) (wd b w wl H0 s, kn) := by
  show Rx sc g_X4_boundTo 1 (0, [(0, .ref (b + 23)), (1, .int a1), (2, .int a2)], []) (wd b w wl H0 s, kn) (some (.int (D_X4_boundTo s a1 a2))) (wd b w wl H0 s, kn)
  refine rx_k 2 (2, [(0, .ref (b + 23)), (1, .int a1), (2, .int a2)], [.int a1, .ref (b + 23)]) (fun _ _ => rfl) ?_
  refine rx_inv rfl rfl (rc_X4_has hP) rfl rfl rfl (q_recv (wg_23 hP)) rfl rfl ?_
  by_cases c0 : (D_X4_has s a1) = 0
  · refine rx_ifT rfl (bt c0) ?_
    refine rx_k 1 (30, [(0, .ref (b + 23)), (1, .int a1), (2, .int a2)], [.int (-1)]) (fun _ _ => rfl) ?_
    rw [(show (D_X4_boundTo s a1 a2) = (-1) from ((if_pos c0).trans rfl))]
    exact rx_ri rfl
  · refine rx_ifF rfl (bf c0) rfl ?_
    refine rx_k 1 (9, [(0, .ref (b + 23)), (1, .int a1), (2, .int a2)], [.int a2]) (fun _ _ => rfl) ?_
    refine rx_inv rfl rfl (rc_X11_isName) rfl rfl rfl rfl rfl rfl ?_
    by_cases c1 : (D_X11_isName a2) = 0
    · refine rx_ifT rfl (bt c1) ?_
      refine rx_k 1 (30, [(0, .ref (b + 23)), (1, .int a1), (2, .int a2)], [.int (-1)]) (fun _ _ => rfl) ?_
      rw [(show (D_X4_boundTo s a1 a2) = (-1) from ((if_neg c0).trans ((if_pos c1).trans rfl)))]
      exact rx_ri rfl
    · refine rx_ifF rfl (bf c1) rfl ?_
      refine rx_k 1 (16, [(0, .ref (b + 23)), (1, .int a1), (2, .int a2)], [.ref (b + 23)]) (fun _ _ => rfl) ?_
      refine rx_getf rfl rfl (wg_23 hP) rfl ?_
      refine rx_k 5 (25, [(0, .ref (b + 23)), (1, .int a1), (2, .int a2)], [.int ((a1 * 20) + a2), .ref (b + 31)]) (fun _ _ => rfl) ?_
      refine rx_ild rfl rfl (wg_31 hP) (ar_at (i_mul_add 20 20 rfl (rg_X4_has c0) (rg_isName c1) (by decide) (by decide))) ?_
      refine rx_k 1 (30, [(0, .ref (b + 23)), (1, .int a1), (2, .int a2)], [.int (s 31 ((a1 * 20) + a2).toNatClampNeg)]) (fun _ _ => rfl) ?_
      rw [(show (D_X4_boundTo s a1 a2) = (s 31 ((a1 * 20) + a2).toNatClampNeg) from ((if_neg c0).trans ((if_neg c1).trans rfl)))]
      exact rx_ri rfl
theorem rc_X4_boundTo (hP : WOK b w H0) {s : Sg} {a1 : Int32} {a2 : Int32} : Rc sc 2 54 [.ref (b + 23), .int a1, .int a2] (wd b w wl H0 s, kn) (some (.int (D_X4_boundTo s a1 a2))) (wd b w wl H0 s, kn) := rx_mc (m_X4_boundTo hP) rfl rfl (Nat.ble_eq_true_of_le (Nat.le_refl _)) (Nat.ble_eq_true_of_le (Nat.le_refl _))
-- LinkHarbour$LibraryTable.boundAddress
noncomputable def D_X4_boundAddress (s : Sg) (a1 : Int32) (a2 : Int32) : Int32 := (if (D_X4_boundTo s a1 a2) = (-1) then (-1) else ((D_X4_base s (D_X4_boundTo s a1 a2)) + (D_X4_exportAddress s (D_X4_boundTo s a1 a2) a2)))
theorem m_X4_boundAddress (hP : WOK b w H0) {s : Sg} {a1 : Int32} {a2 : Int32} : Rx sc g_X4_boundAddress 4 ((0, [(0, .ref (b + 23)), (1, .int a1), (2, .int a2)], [])) (wd b w wl H0 s, kn) (some (.int (D_X4_boundAddress s a1 a2))) (wd b w wl H0 s, kn) := by
  show Rx sc g_X4_boundAddress 4 (0, [(0, .ref (b + 23)), (1, .int a1), (2, .int a2)], []) (wd b w wl H0 s, kn) (some (.int (D_X4_boundAddress s a1 a2))) (wd b w wl H0 s, kn)
  refine rx_k 3 (3, [(0, .ref (b + 23)), (1, .int a1), (2, .int a2)], [.int a2, .int a1, .ref (b + 23)]) (fun _ _ => rfl) ?_
  refine rx_inv rfl rfl (rc_X4_boundTo hP) rfl rfl rfl (q_recv (wg_23 hP)) rfl rfl ?_
  refine rx_k 3 (9, [(3, .int (D_X4_boundTo s a1 a2)), (0, .ref (b + 23)), (1, .int a1), (2, .int a2)], [.int (-1), .int (D_X4_boundTo s a1 a2)]) (fun _ _ => rfl) ?_
  by_cases c0 : (D_X4_boundTo s a1 a2) = (-1)
  · refine rx_icF rfl (nf c0) rfl ?_
    refine rx_k 2 (28, [(3, .int (D_X4_boundTo s a1 a2)), (0, .ref (b + 23)), (1, .int a1), (2, .int a2)], [.int (-1)]) (fun _ _ => rfl) ?_
    rw [(show (D_X4_boundAddress s a1 a2) = (-1) from ((if_pos c0).trans rfl))]
    exact rx_ri rfl
  · refine rx_icT rfl (nt c0) ?_
    refine rx_k 2 (18, [(3, .int (D_X4_boundTo s a1 a2)), (0, .ref (b + 23)), (1, .int a1), (2, .int a2)], [.int (D_X4_boundTo s a1 a2), .ref (b + 23)]) (fun _ _ => rfl) ?_
    refine rx_inv rfl rfl (rc_X4_base hP) rfl rfl rfl (q_recv (wg_23 hP)) rfl rfl ?_
    refine rx_k 3 (24, [(3, .int (D_X4_boundTo s a1 a2)), (0, .ref (b + 23)), (1, .int a1), (2, .int a2)], [.int a2, .int (D_X4_boundTo s a1 a2), .ref (b + 23), .int (D_X4_base s (D_X4_boundTo s a1 a2))]) (fun _ _ => rfl) ?_
    refine rx_inv rfl rfl (rc_X4_exportAddress hP) rfl rfl rfl (q_recv (wg_23 hP)) rfl rfl ?_
    refine rx_k 1 (28, [(3, .int (D_X4_boundTo s a1 a2)), (0, .ref (b + 23)), (1, .int a1), (2, .int a2)], [.int ((D_X4_base s (D_X4_boundTo s a1 a2)) + (D_X4_exportAddress s (D_X4_boundTo s a1 a2) a2))]) (fun _ _ => rfl) ?_
    rw [(show (D_X4_boundAddress s a1 a2) = ((D_X4_base s (D_X4_boundTo s a1 a2)) + (D_X4_exportAddress s (D_X4_boundTo s a1 a2) a2)) from ((if_neg c0).trans rfl))]
    exact rx_ri rfl
theorem rc_X4_boundAddress (hP : WOK b w H0) {s : Sg} {a1 : Int32} {a2 : Int32} : Rc sc 5 55 [.ref (b + 23), .int a1, .int a2] (wd b w wl H0 s, kn) (some (.int (D_X4_boundAddress s a1 a2))) (wd b w wl H0 s, kn) := rx_mc (m_X4_boundAddress hP) rfl rfl (Nat.ble_eq_true_of_le (Nat.le_refl _)) (Nat.ble_eq_true_of_le (Nat.le_refl _))
-- LinkHarbour$LibraryTable.placeIn
def fr_X4_placeIn_32_2 (b w : Nat) (a1 : Int32) (a2 : Int32) (x3 : Int32) : EF := (2, [(0, .ref (b + 32)), (1, .int a1), (2, .int a2), (3, .int x3)], [])
def fe_X4_placeIn_32_2 (b w : Nat) (a1 : Int32) (a2 : Int32) (x3 : Int32) : EF := (28, [], [])
noncomputable def B_X4_placeIn_32_2 (s : Sg) (a1 : Int32) (a2 : Int32) (x3 : Int32) : Option (Option Int32) × (Int32) := (if a1 ≤ x3 then ((some none), x3) else (if 6 ≤ x3 then ((some none), x3) else (if (s 32 x3.toNatClampNeg) = a2 then (some (some x3), x3) else (none, (x3 + 1)))))
theorem b_X4_placeIn_32_2 (hP : WOK b w H0) {s : Sg} {a1 : Int32} {a2 : Int32} {x3 : Int32} (o : Option Value) (h' : EH) (hN : NN s) (hv : 0 ≤ x3.toInt) (hc : ∀ (t3 : Int32), (B_X4_placeIn_32_2 s a1 a2 x3) = (none, t3) → x3.toInt < 2147483647 → t3 = x3 + 1 → Rx sc g_X4_placeIn 0 (fr_X4_placeIn_32_2 b w a1 a2 t3) (wd b w wl H0 s, kn) o h') (he : ∀ (t3 : Int32), (B_X4_placeIn_32_2 s a1 a2 x3) = (some none, t3) → Rx sc g_X4_placeIn 0 (fe_X4_placeIn_32_2 b w a1 a2 t3) (wd b w wl H0 s, kn) o h') (hr : ∀ (v : Int32) (t3 : Int32), (B_X4_placeIn_32_2 s a1 a2 x3) = (some (some v), t3) → o = some (.int v) ∧ h' = (wd b w wl H0 s, kn)) : Rx sc g_X4_placeIn 0 (fr_X4_placeIn_32_2 b w a1 a2 x3) (wd b w wl H0 s, kn) o h' := by
  show Rx sc g_X4_placeIn 0 (2, [(0, .ref (b + 32)), (1, .int a1), (2, .int a2), (3, .int x3)], []) (wd b w wl H0 s, kn) o h'
  refine rx_k 2 (4, [(0, .ref (b + 32)), (1, .int a1), (2, .int a2), (3, .int x3)], [.int a1, .int x3]) (fun _ _ => rfl) ?_
  by_cases c0 : a1 ≤ x3
  · refine rx_icT rfl (bt c0) ?_
    exact rx_lo am_X4_placeIn (lo := []) (fun _ h => absurd h List.not_mem_nil) rfl (he _ (show (B_X4_placeIn_32_2 s a1 a2 x3) = ((some none), x3) from ((if_pos c0).trans rfl)))
  · refine rx_icF rfl (bf c0) rfl ?_
    refine rx_k 2 (9, [(0, .ref (b + 32)), (1, .int a1), (2, .int a2), (3, .int x3)], [.ref (b + 32), .int x3]) (fun _ _ => rfl) ?_
    refine rx_alen (z := 6) rfl rfl (wg_32 hP) rfl rfl ?_
    by_cases c1 : 6 ≤ x3
    · refine rx_icT rfl (bt c1) ?_
      exact rx_lo am_X4_placeIn (lo := []) (fun _ h => absurd h List.not_mem_nil) rfl (he _ (show (B_X4_placeIn_32_2 s a1 a2 x3) = ((some none), x3) from ((if_neg c0).trans ((if_pos c1).trans rfl))))
    · refine rx_icF rfl (bf c1) rfl ?_
      refine rx_k 2 (15, [(0, .ref (b + 32)), (1, .int a1), (2, .int a2), (3, .int x3)], [.int x3, .ref (b + 32)]) (fun _ _ => rfl) ?_
      refine rx_ild rfl rfl (wg_32 hP) (ar_at (rg_c hv c1 (m := 6) (n := 6) rfl)) ?_
      refine rx_k 1 (17, [(0, .ref (b + 32)), (1, .int a1), (2, .int a2), (3, .int x3)], [.int a2, .int (s 32 x3.toNatClampNeg)]) (fun _ _ => rfl) ?_
      by_cases c2 : (s 32 x3.toNatClampNeg) = a2
      · refine rx_icF rfl (nf c2) rfl ?_
        refine rx_k 1 (21, [(0, .ref (b + 32)), (1, .int a1), (2, .int a2), (3, .int x3)], [.int x3]) (fun _ _ => rfl) ?_
        obtain ⟨hr1, hr2⟩ := hr _ _ (show (B_X4_placeIn_32_2 s a1 a2 x3) = (some (some x3), x3) from ((if_neg c0).trans ((if_neg c1).trans ((if_pos c2).trans rfl))))
        rw [hr1, hr2]
        exact rx_ri rfl
      · refine rx_icT rfl (nt c2) ?_
        refine rx_k 2 (2, [(3, .int (x3 + 1)), (0, .ref (b + 32)), (1, .int a1), (2, .int a2)], []) (fun _ _ => rfl) ?_
        refine rx_lo am_X4_placeIn (lo := [(0, .ref (b + 32)), (1, .int a1), (2, .int a2), (3, .int (x3 + 1))]) (List.forall_mem_cons.mpr ⟨List.mem_of_getElem? (i := 1) rfl, (List.forall_mem_cons.mpr ⟨List.mem_of_getElem? (i := 2) rfl, (List.forall_mem_cons.mpr ⟨List.mem_of_getElem? (i := 3) rfl, (List.forall_mem_cons.mpr ⟨List.mem_of_getElem? (i := 0) rfl, (fun _ h => absurd h List.not_mem_nil)⟩)⟩)⟩)⟩) rfl (hc _ (show (B_X4_placeIn_32_2 s a1 a2 x3) = (none, (x3 + 1)) from ((if_neg c0).trans ((if_neg c1).trans ((if_neg c2).trans rfl)))) (lt_nle c0) rfl)
noncomputable def R_X4_placeIn_32_28 (s : Sg) : Int32 := (-1)
theorem r_X4_placeIn_32_28 (hP : WOK b w H0) {s : Sg} (hN : NN s) : Rx sc g_X4_placeIn 0 ((28, [], [])) (wd b w wl H0 s, kn) (some (.int (R_X4_placeIn_32_28 s))) (wd b w wl H0 s, kn) := by
  show Rx sc g_X4_placeIn 0 (28, [], []) (wd b w wl H0 s, kn) (some (.int (R_X4_placeIn_32_28 s))) (wd b w wl H0 s, kn)
  refine rx_k 1 (29, [], [.int (-1)]) (fun _ _ => rfl) ?_
  rw [(show (R_X4_placeIn_32_28 s) = (-1) from rfl)]
  exact rx_ri rfl
noncomputable def D_X4_placeIn_32 (s : Sg) (a1 : Int32) (a2 : Int32) : Int32 := (match (itf (B_X4_placeIn_32_2 s a1 a2) BIG 0) with | some v => v | none => (R_X4_placeIn_32_28 s))
theorem m_X4_placeIn_32 (hP : WOK b w H0) {s : Sg} {a1 : Int32} {a2 : Int32} (hN : NN s) : Rx sc g_X4_placeIn 0 ((0, [(0, .ref (b + 32)), (1, .int a1), (2, .int a2)], [])) (wd b w wl H0 s, kn) (some (.int (D_X4_placeIn_32 s a1 a2))) (wd b w wl H0 s, kn) := by
  show Rx sc g_X4_placeIn 0 (0, [(0, .ref (b + 32)), (1, .int a1), (2, .int a2)], []) (wd b w wl H0 s, kn) (some (.int (D_X4_placeIn_32 s a1 a2))) (wd b w wl H0 s, kn)
  refine rx_k 2 (2, [(3, .int 0), (0, .ref (b + 32)), (1, .int a1), (2, .int a2)], []) (fun _ _ => rfl) ?_
  refine rx_lo am_X4_placeIn (lo := [(0, .ref (b + 32)), (1, .int a1), (2, .int a2), (3, .int 0)]) (List.forall_mem_cons.mpr ⟨List.mem_of_getElem? (i := 1) rfl, (List.forall_mem_cons.mpr ⟨List.mem_of_getElem? (i := 2) rfl, (List.forall_mem_cons.mpr ⟨List.mem_of_getElem? (i := 3) rfl, (List.forall_mem_cons.mpr ⟨List.mem_of_getElem? (i := 0) rfl, (fun _ h => absurd h List.not_mem_nil)⟩)⟩)⟩)⟩) rfl ?_
  have e9 := (show (D_X4_placeIn_32 s a1 a2) = (match (itf (B_X4_placeIn_32_2 s a1 a2) BIG 0) with | some v => v | none => (R_X4_placeIn_32_28 s)) from rfl)
  refine rx_loopF1 (B := B_X4_placeIn_32_2 s a1 a2) (fr := (fr_X4_placeIn_32_2 b w a1 a2)) (E := (fe_X4_placeIn_32_2 b w a1 a2)) (hp := (wd b w wl H0 s, kn)) (fun z hv9 hc9 he9 hr9 => b_X4_placeIn_32_2 hP _ _ hN hv9 hc9 he9 hr9) BIG 0 (by decide : (0 : Int) ≤ (0 : Int32).toInt) (le_enough (by decide : (0 : Int) ≤ (0 : Int32).toInt)) (fun e1 y => ?_) (fun v e1 => ?_)
  · rw [e9, e1]
    exact r_X4_placeIn_32_28 hP hN
  · exact ⟨by rw [e9, e1], rfl⟩
theorem rc_X4_placeIn_32 (hP : WOK b w H0) {s : Sg} {a1 : Int32} {a2 : Int32} (hN : NN s) : Rc sc 1 58 [.ref (b + 32), .int a1, .int a2] (wd b w wl H0 s, kn) (some (.int (D_X4_placeIn_32 s a1 a2))) (wd b w wl H0 s, kn) := rx_mc (m_X4_placeIn_32 hP hN) rfl rfl (Nat.ble_eq_true_of_le (Nat.le_refl _)) (Nat.ble_eq_true_of_le (Nat.le_refl _))
-- LinkHarbour$LibraryTable.placeIn
def fr_X4_placeIn_33_2 (b w : Nat) (a1 : Int32) (a2 : Int32) (x3 : Int32) : EF := (2, [(0, .ref (b + 33)), (1, .int a1), (2, .int a2), (3, .int x3)], [])
def fe_X4_placeIn_33_2 (b w : Nat) (a1 : Int32) (a2 : Int32) (x3 : Int32) : EF := (28, [], [])
noncomputable def B_X4_placeIn_33_2 (s : Sg) (a1 : Int32) (a2 : Int32) (x3 : Int32) : Option (Option Int32) × (Int32) := (if a1 ≤ x3 then ((some none), x3) else (if 6 ≤ x3 then ((some none), x3) else (if (s 33 x3.toNatClampNeg) = a2 then (some (some x3), x3) else (none, (x3 + 1)))))
theorem b_X4_placeIn_33_2 (hP : WOK b w H0) {s : Sg} {a1 : Int32} {a2 : Int32} {x3 : Int32} (o : Option Value) (h' : EH) (hN : NN s) (hv : 0 ≤ x3.toInt) (hc : ∀ (t3 : Int32), (B_X4_placeIn_33_2 s a1 a2 x3) = (none, t3) → x3.toInt < 2147483647 → t3 = x3 + 1 → Rx sc g_X4_placeIn 0 (fr_X4_placeIn_33_2 b w a1 a2 t3) (wd b w wl H0 s, kn) o h') (he : ∀ (t3 : Int32), (B_X4_placeIn_33_2 s a1 a2 x3) = (some none, t3) → Rx sc g_X4_placeIn 0 (fe_X4_placeIn_33_2 b w a1 a2 t3) (wd b w wl H0 s, kn) o h') (hr : ∀ (v : Int32) (t3 : Int32), (B_X4_placeIn_33_2 s a1 a2 x3) = (some (some v), t3) → o = some (.int v) ∧ h' = (wd b w wl H0 s, kn)) : Rx sc g_X4_placeIn 0 (fr_X4_placeIn_33_2 b w a1 a2 x3) (wd b w wl H0 s, kn) o h' := by
  show Rx sc g_X4_placeIn 0 (2, [(0, .ref (b + 33)), (1, .int a1), (2, .int a2), (3, .int x3)], []) (wd b w wl H0 s, kn) o h'
  refine rx_k 2 (4, [(0, .ref (b + 33)), (1, .int a1), (2, .int a2), (3, .int x3)], [.int a1, .int x3]) (fun _ _ => rfl) ?_
  by_cases c0 : a1 ≤ x3
  · refine rx_icT rfl (bt c0) ?_
    exact rx_lo am_X4_placeIn (lo := []) (fun _ h => absurd h List.not_mem_nil) rfl (he _ (show (B_X4_placeIn_33_2 s a1 a2 x3) = ((some none), x3) from ((if_pos c0).trans rfl)))
  · refine rx_icF rfl (bf c0) rfl ?_
    refine rx_k 2 (9, [(0, .ref (b + 33)), (1, .int a1), (2, .int a2), (3, .int x3)], [.ref (b + 33), .int x3]) (fun _ _ => rfl) ?_
    refine rx_alen (z := 6) rfl rfl (wg_33 hP) rfl rfl ?_
    by_cases c1 : 6 ≤ x3
    · refine rx_icT rfl (bt c1) ?_
      exact rx_lo am_X4_placeIn (lo := []) (fun _ h => absurd h List.not_mem_nil) rfl (he _ (show (B_X4_placeIn_33_2 s a1 a2 x3) = ((some none), x3) from ((if_neg c0).trans ((if_pos c1).trans rfl))))
    · refine rx_icF rfl (bf c1) rfl ?_
      refine rx_k 2 (15, [(0, .ref (b + 33)), (1, .int a1), (2, .int a2), (3, .int x3)], [.int x3, .ref (b + 33)]) (fun _ _ => rfl) ?_
      refine rx_ild rfl rfl (wg_33 hP) (ar_at (rg_c hv c1 (m := 6) (n := 6) rfl)) ?_
      refine rx_k 1 (17, [(0, .ref (b + 33)), (1, .int a1), (2, .int a2), (3, .int x3)], [.int a2, .int (s 33 x3.toNatClampNeg)]) (fun _ _ => rfl) ?_
      by_cases c2 : (s 33 x3.toNatClampNeg) = a2
      · refine rx_icF rfl (nf c2) rfl ?_
        refine rx_k 1 (21, [(0, .ref (b + 33)), (1, .int a1), (2, .int a2), (3, .int x3)], [.int x3]) (fun _ _ => rfl) ?_
        obtain ⟨hr1, hr2⟩ := hr _ _ (show (B_X4_placeIn_33_2 s a1 a2 x3) = (some (some x3), x3) from ((if_neg c0).trans ((if_neg c1).trans ((if_pos c2).trans rfl))))
        rw [hr1, hr2]
        exact rx_ri rfl
      · refine rx_icT rfl (nt c2) ?_
        refine rx_k 2 (2, [(3, .int (x3 + 1)), (0, .ref (b + 33)), (1, .int a1), (2, .int a2)], []) (fun _ _ => rfl) ?_
        refine rx_lo am_X4_placeIn (lo := [(0, .ref (b + 33)), (1, .int a1), (2, .int a2), (3, .int (x3 + 1))]) (List.forall_mem_cons.mpr ⟨List.mem_of_getElem? (i := 1) rfl, (List.forall_mem_cons.mpr ⟨List.mem_of_getElem? (i := 2) rfl, (List.forall_mem_cons.mpr ⟨List.mem_of_getElem? (i := 3) rfl, (List.forall_mem_cons.mpr ⟨List.mem_of_getElem? (i := 0) rfl, (fun _ h => absurd h List.not_mem_nil)⟩)⟩)⟩)⟩) rfl (hc _ (show (B_X4_placeIn_33_2 s a1 a2 x3) = (none, (x3 + 1)) from ((if_neg c0).trans ((if_neg c1).trans ((if_neg c2).trans rfl)))) (lt_nle c0) rfl)
noncomputable def R_X4_placeIn_33_28 (s : Sg) : Int32 := (-1)
theorem r_X4_placeIn_33_28 (hP : WOK b w H0) {s : Sg} (hN : NN s) : Rx sc g_X4_placeIn 0 ((28, [], [])) (wd b w wl H0 s, kn) (some (.int (R_X4_placeIn_33_28 s))) (wd b w wl H0 s, kn) := by
  show Rx sc g_X4_placeIn 0 (28, [], []) (wd b w wl H0 s, kn) (some (.int (R_X4_placeIn_33_28 s))) (wd b w wl H0 s, kn)
  refine rx_k 1 (29, [], [.int (-1)]) (fun _ _ => rfl) ?_
  rw [(show (R_X4_placeIn_33_28 s) = (-1) from rfl)]
  exact rx_ri rfl
noncomputable def D_X4_placeIn_33 (s : Sg) (a1 : Int32) (a2 : Int32) : Int32 := (match (itf (B_X4_placeIn_33_2 s a1 a2) BIG 0) with | some v => v | none => (R_X4_placeIn_33_28 s))
theorem m_X4_placeIn_33 (hP : WOK b w H0) {s : Sg} {a1 : Int32} {a2 : Int32} (hN : NN s) : Rx sc g_X4_placeIn 0 ((0, [(0, .ref (b + 33)), (1, .int a1), (2, .int a2)], [])) (wd b w wl H0 s, kn) (some (.int (D_X4_placeIn_33 s a1 a2))) (wd b w wl H0 s, kn) := by
  show Rx sc g_X4_placeIn 0 (0, [(0, .ref (b + 33)), (1, .int a1), (2, .int a2)], []) (wd b w wl H0 s, kn) (some (.int (D_X4_placeIn_33 s a1 a2))) (wd b w wl H0 s, kn)
  refine rx_k 2 (2, [(3, .int 0), (0, .ref (b + 33)), (1, .int a1), (2, .int a2)], []) (fun _ _ => rfl) ?_
  refine rx_lo am_X4_placeIn (lo := [(0, .ref (b + 33)), (1, .int a1), (2, .int a2), (3, .int 0)]) (List.forall_mem_cons.mpr ⟨List.mem_of_getElem? (i := 1) rfl, (List.forall_mem_cons.mpr ⟨List.mem_of_getElem? (i := 2) rfl, (List.forall_mem_cons.mpr ⟨List.mem_of_getElem? (i := 3) rfl, (List.forall_mem_cons.mpr ⟨List.mem_of_getElem? (i := 0) rfl, (fun _ h => absurd h List.not_mem_nil)⟩)⟩)⟩)⟩) rfl ?_
  have e9 := (show (D_X4_placeIn_33 s a1 a2) = (match (itf (B_X4_placeIn_33_2 s a1 a2) BIG 0) with | some v => v | none => (R_X4_placeIn_33_28 s)) from rfl)
  refine rx_loopF1 (B := B_X4_placeIn_33_2 s a1 a2) (fr := (fr_X4_placeIn_33_2 b w a1 a2)) (E := (fe_X4_placeIn_33_2 b w a1 a2)) (hp := (wd b w wl H0 s, kn)) (fun z hv9 hc9 he9 hr9 => b_X4_placeIn_33_2 hP _ _ hN hv9 hc9 he9 hr9) BIG 0 (by decide : (0 : Int) ≤ (0 : Int32).toInt) (le_enough (by decide : (0 : Int) ≤ (0 : Int32).toInt)) (fun e1 y => ?_) (fun v e1 => ?_)
  · rw [e9, e1]
    exact r_X4_placeIn_33_28 hP hN
  · exact ⟨by rw [e9, e1], rfl⟩
theorem rc_X4_placeIn_33 (hP : WOK b w H0) {s : Sg} {a1 : Int32} {a2 : Int32} (hN : NN s) : Rc sc 1 58 [.ref (b + 33), .int a1, .int a2] (wd b w wl H0 s, kn) (some (.int (D_X4_placeIn_33 s a1 a2))) (wd b w wl H0 s, kn) := rx_mc (m_X4_placeIn_33 hP hN) rfl rfl (Nat.ble_eq_true_of_le (Nat.le_refl _)) (Nat.ble_eq_true_of_le (Nat.le_refl _))
-- LinkHarbour$LibraryTable.placeAmongGlobal
noncomputable def D_X4_placeAmongGlobal (s : Sg) (a1 : Int32) : Int32 := (D_X4_placeIn_32 s (s 23 14) a1)
theorem m_X4_placeAmongGlobal (hP : WOK b w H0) {s : Sg} {a1 : Int32} (hN : NN s) : Rx sc g_X4_placeAmongGlobal 1 ((0, [(0, .ref (b + 23)), (1, .int a1)], [])) (wd b w wl H0 s, kn) (some (.int (D_X4_placeAmongGlobal s a1))) (wd b w wl H0 s, kn) := by
  show Rx sc g_X4_placeAmongGlobal 1 (0, [(0, .ref (b + 23)), (1, .int a1)], []) (wd b w wl H0 s, kn) (some (.int (D_X4_placeAmongGlobal s a1))) (wd b w wl H0 s, kn)
  refine rx_k 1 (1, [(0, .ref (b + 23)), (1, .int a1)], [.ref (b + 23)]) (fun _ _ => rfl) ?_
  refine rx_getf rfl rfl (wg_23 hP) rfl ?_
  refine rx_k 1 (5, [(0, .ref (b + 23)), (1, .int a1)], [.ref (b + 23), .ref (b + 32)]) (fun _ _ => rfl) ?_
  refine rx_getf rfl rfl (wg_23 hP) rfl ?_
  refine rx_k 1 (9, [(0, .ref (b + 23)), (1, .int a1)], [.int a1, .int (s 23 14), .ref (b + 32)]) (fun _ _ => rfl) ?_
  refine rx_inv rfl rfl (rc_X4_placeIn_32 hP hN) rfl rfl rfl rfl rfl rfl ?_
  rw [(show (D_X4_placeAmongGlobal s a1) = (D_X4_placeIn_32 s (s 23 14) a1) from rfl)]
  exact rx_ri rfl
theorem rc_X4_placeAmongGlobal (hP : WOK b w H0) {s : Sg} {a1 : Int32} (hN : NN s) : Rc sc 2 56 [.ref (b + 23), .int a1] (wd b w wl H0 s, kn) (some (.int (D_X4_placeAmongGlobal s a1))) (wd b w wl H0 s, kn) := rx_mc (m_X4_placeAmongGlobal hP hN) rfl rfl (Nat.ble_eq_true_of_le (Nat.le_refl _)) (Nat.ble_eq_true_of_le (Nat.le_refl _))
-- LinkHarbour$LibraryTable.placeAmongInitialised
noncomputable def D_X4_placeAmongInitialised (s : Sg) (a1 : Int32) : Int32 := (D_X4_placeIn_33 s (s 23 15) a1)
theorem m_X4_placeAmongInitialised (hP : WOK b w H0) {s : Sg} {a1 : Int32} (hN : NN s) : Rx sc g_X4_placeAmongInitialised 1 ((0, [(0, .ref (b + 23)), (1, .int a1)], [])) (wd b w wl H0 s, kn) (some (.int (D_X4_placeAmongInitialised s a1))) (wd b w wl H0 s, kn) := by
  show Rx sc g_X4_placeAmongInitialised 1 (0, [(0, .ref (b + 23)), (1, .int a1)], []) (wd b w wl H0 s, kn) (some (.int (D_X4_placeAmongInitialised s a1))) (wd b w wl H0 s, kn)
  refine rx_k 1 (1, [(0, .ref (b + 23)), (1, .int a1)], [.ref (b + 23)]) (fun _ _ => rfl) ?_
  refine rx_getf rfl rfl (wg_23 hP) rfl ?_
  refine rx_k 1 (5, [(0, .ref (b + 23)), (1, .int a1)], [.ref (b + 23), .ref (b + 33)]) (fun _ _ => rfl) ?_
  refine rx_getf rfl rfl (wg_23 hP) rfl ?_
  refine rx_k 1 (9, [(0, .ref (b + 23)), (1, .int a1)], [.int a1, .int (s 23 15), .ref (b + 33)]) (fun _ _ => rfl) ?_
  refine rx_inv rfl rfl (rc_X4_placeIn_33 hP hN) rfl rfl rfl rfl rfl rfl ?_
  rw [(show (D_X4_placeAmongInitialised s a1) = (D_X4_placeIn_33 s (s 23 15) a1) from rfl)]
  exact rx_ri rfl
theorem rc_X4_placeAmongInitialised (hP : WOK b w H0) {s : Sg} {a1 : Int32} (hN : NN s) : Rc sc 2 57 [.ref (b + 23), .int a1] (wd b w wl H0 s, kn) (some (.int (D_X4_placeAmongInitialised s a1))) (wd b w wl H0 s, kn) := rx_mc (m_X4_placeAmongInitialised hP hN) rfl rfl (Nat.ble_eq_true_of_le (Nat.le_refl _)) (Nat.ble_eq_true_of_le (Nat.le_refl _))
-- LinkHarbour$LibraryTable.loaded
def fr_X4_loaded_4 (b w : Nat) (x2 : Int32) (x1 : Int32) : EF := (4, [(0, .ref (b + 23)), (1, .int x1), (2, .int x2)], [])
def fe_X4_loaded_4 (b w : Nat) (x2 : Int32) (x1 : Int32) : EF := (30, [(1, .int x1)], [])
noncomputable def B_X4_loaded_4 (s : Sg) (x2 : Int32) (x1 : Int32) : Bool × (Int32 × Int32) := (if 6 ≤ x2 then (false, (x2, x1)) else (if (D_X4_isLoaded s x2) = 0 then (true, ((x2 + 1), x1)) else (true, ((x2 + 1), (x1 ||| (1 <<< (x2 &&& 31)))))))
theorem b_X4_loaded_4 (hP : WOK b w H0) {s : Sg} {x2 : Int32} {x1 : Int32} (o : Option Value) (h' : EH) (hN : NN s) (hv : 0 ≤ x2.toInt) (hc : ∀ (t2 : Int32) (t1 : Int32), (B_X4_loaded_4 s x2 x1) = (true, (t2, t1)) → x2.toInt < 2147483647 → t2 = x2 + 1 → Rx sc g_X4_loaded 3 (fr_X4_loaded_4 b w t2 t1) (wd b w wl H0 s, kn) o h') (he : ∀ (t2 : Int32) (t1 : Int32), (B_X4_loaded_4 s x2 x1) = (false, (t2, t1)) → Rx sc g_X4_loaded 3 (fe_X4_loaded_4 b w t2 t1) (wd b w wl H0 s, kn) o h') : Rx sc g_X4_loaded 3 (fr_X4_loaded_4 b w x2 x1) (wd b w wl H0 s, kn) o h' := by
  show Rx sc g_X4_loaded 3 (4, [(0, .ref (b + 23)), (1, .int x1), (2, .int x2)], []) (wd b w wl H0 s, kn) o h'
  refine rx_k 2 (7, [(0, .ref (b + 23)), (1, .int x1), (2, .int x2)], [.int 6, .int x2]) (fun _ _ => rfl) ?_
  by_cases c0 : 6 ≤ x2
  · refine rx_icT rfl (bt c0) ?_
    exact rx_lo am_X4_loaded (lo := [(1, .int x1)]) (List.forall_mem_cons.mpr ⟨List.mem_of_getElem? (i := 1) rfl, (fun _ h => absurd h List.not_mem_nil)⟩) rfl (he _ _ (show (B_X4_loaded_4 s x2 x1) = (false, (x2, x1)) from ((if_pos c0).trans rfl)))
  · refine rx_icF rfl (bf c0) rfl ?_
    refine rx_k 2 (12, [(0, .ref (b + 23)), (1, .int x1), (2, .int x2)], [.int x2, .ref (b + 23)]) (fun _ _ => rfl) ?_
    refine rx_inv rfl rfl (rc_X4_isLoaded hP) rfl rfl rfl (q_recv (wg_23 hP)) rfl rfl ?_
    by_cases c1 : (D_X4_isLoaded s x2) = 0
    · refine rx_ifT rfl (bt c1) ?_
      refine rx_k 2 (4, [(2, .int (x2 + 1)), (0, .ref (b + 23)), (1, .int x1)], []) (fun _ _ => rfl) ?_
      refine rx_lo am_X4_loaded (lo := [(0, .ref (b + 23)), (1, .int x1), (2, .int (x2 + 1))]) (List.forall_mem_cons.mpr ⟨List.mem_of_getElem? (i := 1) rfl, (List.forall_mem_cons.mpr ⟨List.mem_of_getElem? (i := 2) rfl, (List.forall_mem_cons.mpr ⟨List.mem_of_getElem? (i := 0) rfl, (fun _ h => absurd h List.not_mem_nil)⟩)⟩)⟩) rfl (hc _ _ (show (B_X4_loaded_4 s x2 x1) = (true, ((x2 + 1), x1)) from ((if_neg c0).trans ((if_pos c1).trans rfl))) (lt_nle c0) rfl)
    · refine rx_ifF rfl (bf c1) rfl ?_
      refine rx_k 8 (4, [(2, .int (x2 + 1)), (1, .int (x1 ||| (1 <<< (x2 &&& 31)))), (0, .ref (b + 23))], []) (fun _ _ => rfl) ?_
      refine rx_lo am_X4_loaded (lo := [(0, .ref (b + 23)), (1, .int (x1 ||| (1 <<< (x2 &&& 31)))), (2, .int (x2 + 1))]) (List.forall_mem_cons.mpr ⟨List.mem_of_getElem? (i := 2) rfl, (List.forall_mem_cons.mpr ⟨List.mem_of_getElem? (i := 1) rfl, (List.forall_mem_cons.mpr ⟨List.mem_of_getElem? (i := 0) rfl, (fun _ h => absurd h List.not_mem_nil)⟩)⟩)⟩) rfl (hc _ _ (show (B_X4_loaded_4 s x2 x1) = (true, ((x2 + 1), (x1 ||| (1 <<< (x2 &&& 31))))) from ((if_neg c0).trans ((if_neg c1).trans rfl))) (lt_nle c0) rfl)
noncomputable def R_X4_loaded_30 (s : Sg) (a1 : Int32) : Int32 := a1
theorem r_X4_loaded_30 (hP : WOK b w H0) {s : Sg} {a1 : Int32} (hN : NN s) : Rx sc g_X4_loaded 3 ((30, [(1, .int a1)], [])) (wd b w wl H0 s, kn) (some (.int (R_X4_loaded_30 s a1))) (wd b w wl H0 s, kn) := by
  show Rx sc g_X4_loaded 3 (30, [(1, .int a1)], []) (wd b w wl H0 s, kn) (some (.int (R_X4_loaded_30 s a1))) (wd b w wl H0 s, kn)
  refine rx_k 1 (31, [(1, .int a1)], [.int a1]) (fun _ _ => rfl) ?_
  rw [(show (R_X4_loaded_30 s a1) = a1 from rfl)]
  exact rx_ri rfl
noncomputable def D_X4_loaded (s : Sg) : Int32 := (R_X4_loaded_30 s ((itr (uc2 (B_X4_loaded_4 s)) BIG (0, 0)).2))
theorem m_X4_loaded (hP : WOK b w H0) {s : Sg} (hN : NN s) : Rx sc g_X4_loaded 3 ((0, [(0, .ref (b + 23))], [])) (wd b w wl H0 s, kn) (some (.int (D_X4_loaded s))) (wd b w wl H0 s, kn) := by
  show Rx sc g_X4_loaded 3 (0, [(0, .ref (b + 23))], []) (wd b w wl H0 s, kn) (some (.int (D_X4_loaded s))) (wd b w wl H0 s, kn)
  refine rx_k 4 (4, [(2, .int 0), (1, .int 0), (0, .ref (b + 23))], []) (fun _ _ => rfl) ?_
  refine rx_lo am_X4_loaded (lo := [(0, .ref (b + 23)), (1, .int 0), (2, .int 0)]) (List.forall_mem_cons.mpr ⟨List.mem_of_getElem? (i := 2) rfl, (List.forall_mem_cons.mpr ⟨List.mem_of_getElem? (i := 1) rfl, (List.forall_mem_cons.mpr ⟨List.mem_of_getElem? (i := 0) rfl, (fun _ h => absurd h List.not_mem_nil)⟩)⟩)⟩) rfl ?_
  refine rx_loop2p (B := B_X4_loaded_4 s) (fr := (fr_X4_loaded_4 b w)) (E := (fe_X4_loaded_4 b w)) (hp := (wd b w wl H0 s, kn)) (fun z2 z1 oo hh9 hI9 hv9 hc9 he9 => b_X4_loaded_4 hP oo hh9 hN hv9 hc9 he9)  BIG 0 0 _ _  (by decide : (0 : Int) ≤ (0 : Int32).toInt) (le_enough (by decide : (0 : Int) ≤ (0 : Int32).toInt)) ?_
  rw [(show (D_X4_loaded s) = (R_X4_loaded_30 s ((itr (uc2 (B_X4_loaded_4 s)) BIG (0, 0)).2)) from rfl)]
  exact r_X4_loaded_30 hP hN
theorem rc_X4_loaded (hP : WOK b w H0) {s : Sg} (hN : NN s) : Rc sc 4 64 [.ref (b + 23)] (wd b w wl H0 s, kn) (some (.int (D_X4_loaded s))) (wd b w wl H0 s, kn) := rx_mc (m_X4_loaded hP hN) rfl rfl (Nat.ble_eq_true_of_le (Nat.le_refl _)) (Nat.ble_eq_true_of_le (Nat.le_refl _))
-- java/lang/Integer.bitCount
noncomputable def D_J6_bitCount_0f7a4 (a0 : Int32) : Int32 := ((((((((a0 - (((a0.toUInt32 >>> ((1 : Int32).toUInt32 &&& Int32.toUInt32 31)).toInt32) &&& 1431655765)) &&& 858993459) + ((((a0 - (((a0.toUInt32 >>> ((1 : Int32).toUInt32 &&& Int32.toUInt32 31)).toInt32) &&& 1431655765)).toUInt32 >>> ((2 : Int32).toUInt32 &&& Int32.toUInt32 31)).toInt32) &&& 858993459)) + (((((a0 - (((a0.toUInt32 >>> ((1 : Int32).toUInt32 &&& Int32.toUInt32 31)).toInt32) &&& 1431655765)) &&& 858993459) + ((((a0 - (((a0.toUInt32 >>> ((1 : Int32).toUInt32 &&& Int32.toUInt32 31)).toInt32) &&& 1431655765)).toUInt32 >>> ((2 : Int32).toUInt32 &&& Int32.toUInt32 31)).toInt32) &&& 858993459)).toUInt32 >>> ((4 : Int32).toUInt32 &&& Int32.toUInt32 31)).toInt32)) &&& 252645135) + (((((((a0 - (((a0.toUInt32 >>> ((1 : Int32).toUInt32 &&& Int32.toUInt32 31)).toInt32) &&& 1431655765)) &&& 858993459) + ((((a0 - (((a0.toUInt32 >>> ((1 : Int32).toUInt32 &&& Int32.toUInt32 31)).toInt32) &&& 1431655765)).toUInt32 >>> ((2 : Int32).toUInt32 &&& Int32.toUInt32 31)).toInt32) &&& 858993459)) + (((((a0 - (((a0.toUInt32 >>> ((1 : Int32).toUInt32 &&& Int32.toUInt32 31)).toInt32) &&& 1431655765)) &&& 858993459) + ((((a0 - (((a0.toUInt32 >>> ((1 : Int32).toUInt32 &&& Int32.toUInt32 31)).toInt32) &&& 1431655765)).toUInt32 >>> ((2 : Int32).toUInt32 &&& Int32.toUInt32 31)).toInt32) &&& 858993459)).toUInt32 >>> ((4 : Int32).toUInt32 &&& Int32.toUInt32 31)).toInt32)) &&& 252645135).toUInt32 >>> ((8 : Int32).toUInt32 &&& Int32.toUInt32 31)).toInt32)) + ((((((((a0 - (((a0.toUInt32 >>> ((1 : Int32).toUInt32 &&& Int32.toUInt32 31)).toInt32) &&& 1431655765)) &&& 858993459) + ((((a0 - (((a0.toUInt32 >>> ((1 : Int32).toUInt32 &&& Int32.toUInt32 31)).toInt32) &&& 1431655765)).toUInt32 >>> ((2 : Int32).toUInt32 &&& Int32.toUInt32 31)).toInt32) &&& 858993459)) + (((((a0 - (((a0.toUInt32 >>> ((1 : Int32).toUInt32 &&& Int32.toUInt32 31)).toInt32) &&& 1431655765)) &&& 858993459) + ((((a0 - (((a0.toUInt32 >>> ((1 : Int32).toUInt32 &&& Int32.toUInt32 31)).toInt32) &&& 1431655765)).toUInt32 >>> ((2 : Int32).toUInt32 &&& Int32.toUInt32 31)).toInt32) &&& 858993459)).toUInt32 >>> ((4 : Int32).toUInt32 &&& Int32.toUInt32 31)).toInt32)) &&& 252645135) + (((((((a0 - (((a0.toUInt32 >>> ((1 : Int32).toUInt32 &&& Int32.toUInt32 31)).toInt32) &&& 1431655765)) &&& 858993459) + ((((a0 - (((a0.toUInt32 >>> ((1 : Int32).toUInt32 &&& Int32.toUInt32 31)).toInt32) &&& 1431655765)).toUInt32 >>> ((2 : Int32).toUInt32 &&& Int32.toUInt32 31)).toInt32) &&& 858993459)) + (((((a0 - (((a0.toUInt32 >>> ((1 : Int32).toUInt32 &&& Int32.toUInt32 31)).toInt32) &&& 1431655765)) &&& 858993459) + ((((a0 - (((a0.toUInt32 >>> ((1 : Int32).toUInt32 &&& Int32.toUInt32 31)).toInt32) &&& 1431655765)).toUInt32 >>> ((2 : Int32).toUInt32 &&& Int32.toUInt32 31)).toInt32) &&& 858993459)).toUInt32 >>> ((4 : Int32).toUInt32 &&& Int32.toUInt32 31)).toInt32)) &&& 252645135).toUInt32 >>> ((8 : Int32).toUInt32 &&& Int32.toUInt32 31)).toInt32)).toUInt32 >>> ((16 : Int32).toUInt32 &&& Int32.toUInt32 31)).toInt32)) &&& 63)
set_option maxRecDepth 100000 in
theorem m_J6_bitCount_0f7a4 {hh : EH} {a0 : Int32} : Rx sc g_J6_bitCount_0f7a4 0 ((0, [(0, .int a0)], [])) hh (some (.int (D_J6_bitCount_0f7a4 a0))) hh := by
  show Rx sc g_J6_bitCount_0f7a4 0 (0, [(0, .int a0)], []) hh (some (.int (D_J6_bitCount_0f7a4 a0))) hh
  refine rx_k 41 (52, [(0, .int (((((((a0 - (((a0.toUInt32 >>> ((1 : Int32).toUInt32 &&& Int32.toUInt32 31)).toInt32) &&& 1431655765)) &&& 858993459) + ((((a0 - (((a0.toUInt32 >>> ((1 : Int32).toUInt32 &&& Int32.toUInt32 31)).toInt32) &&& 1431655765)).toUInt32 >>> ((2 : Int32).toUInt32 &&& Int32.toUInt32 31)).toInt32) &&& 858993459)) + (((((a0 - (((a0.toUInt32 >>> ((1 : Int32).toUInt32 &&& Int32.toUInt32 31)).toInt32) &&& 1431655765)) &&& 858993459) + ((((a0 - (((a0.toUInt32 >>> ((1 : Int32).toUInt32 &&& Int32.toUInt32 31)).toInt32) &&& 1431655765)).toUInt32 >>> ((2 : Int32).toUInt32 &&& Int32.toUInt32 31)).toInt32) &&& 858993459)).toUInt32 >>> ((4 : Int32).toUInt32 &&& Int32.toUInt32 31)).toInt32)) &&& 252645135) + (((((((a0 - (((a0.toUInt32 >>> ((1 : Int32).toUInt32 &&& Int32.toUInt32 31)).toInt32) &&& 1431655765)) &&& 858993459) + ((((a0 - (((a0.toUInt32 >>> ((1 : Int32).toUInt32 &&& Int32.toUInt32 31)).toInt32) &&& 1431655765)).toUInt32 >>> ((2 : Int32).toUInt32 &&& Int32.toUInt32 31)).toInt32) &&& 858993459)) + (((((a0 - (((a0.toUInt32 >>> ((1 : Int32).toUInt32 &&& Int32.toUInt32 31)).toInt32) &&& 1431655765)) &&& 858993459) + ((((a0 - (((a0.toUInt32 >>> ((1 : Int32).toUInt32 &&& Int32.toUInt32 31)).toInt32) &&& 1431655765)).toUInt32 >>> ((2 : Int32).toUInt32 &&& Int32.toUInt32 31)).toInt32) &&& 858993459)).toUInt32 >>> ((4 : Int32).toUInt32 &&& Int32.toUInt32 31)).toInt32)) &&& 252645135).toUInt32 >>> ((8 : Int32).toUInt32 &&& Int32.toUInt32 31)).toInt32)) + ((((((((a0 - (((a0.toUInt32 >>> ((1 : Int32).toUInt32 &&& Int32.toUInt32 31)).toInt32) &&& 1431655765)) &&& 858993459) + ((((a0 - (((a0.toUInt32 >>> ((1 : Int32).toUInt32 &&& Int32.toUInt32 31)).toInt32) &&& 1431655765)).toUInt32 >>> ((2 : Int32).toUInt32 &&& Int32.toUInt32 31)).toInt32) &&& 858993459)) + (((((a0 - (((a0.toUInt32 >>> ((1 : Int32).toUInt32 &&& Int32.toUInt32 31)).toInt32) &&& 1431655765)) &&& 858993459) + ((((a0 - (((a0.toUInt32 >>> ((1 : Int32).toUInt32 &&& Int32.toUInt32 31)).toInt32) &&& 1431655765)).toUInt32 >>> ((2 : Int32).toUInt32 &&& Int32.toUInt32 31)).toInt32) &&& 858993459)).toUInt32 >>> ((4 : Int32).toUInt32 &&& Int32.toUInt32 31)).toInt32)) &&& 252645135) + (((((((a0 - (((a0.toUInt32 >>> ((1 : Int32).toUInt32 &&& Int32.toUInt32 31)).toInt32) &&& 1431655765)) &&& 858993459) + ((((a0 - (((a0.toUInt32 >>> ((1 : Int32).toUInt32 &&& Int32.toUInt32 31)).toInt32) &&& 1431655765)).toUInt32 >>> ((2 : Int32).toUInt32 &&& Int32.toUInt32 31)).toInt32) &&& 858993459)) + (((((a0 - (((a0.toUInt32 >>> ((1 : Int32).toUInt32 &&& Int32.toUInt32 31)).toInt32) &&& 1431655765)) &&& 858993459) + ((((a0 - (((a0.toUInt32 >>> ((1 : Int32).toUInt32 &&& Int32.toUInt32 31)).toInt32) &&& 1431655765)).toUInt32 >>> ((2 : Int32).toUInt32 &&& Int32.toUInt32 31)).toInt32) &&& 858993459)).toUInt32 >>> ((4 : Int32).toUInt32 &&& Int32.toUInt32 31)).toInt32)) &&& 252645135).toUInt32 >>> ((8 : Int32).toUInt32 &&& Int32.toUInt32 31)).toInt32)).toUInt32 >>> ((16 : Int32).toUInt32 &&& Int32.toUInt32 31)).toInt32)))], [.int ((((((((a0 - (((a0.toUInt32 >>> ((1 : Int32).toUInt32 &&& Int32.toUInt32 31)).toInt32) &&& 1431655765)) &&& 858993459) + ((((a0 - (((a0.toUInt32 >>> ((1 : Int32).toUInt32 &&& Int32.toUInt32 31)).toInt32) &&& 1431655765)).toUInt32 >>> ((2 : Int32).toUInt32 &&& Int32.toUInt32 31)).toInt32) &&& 858993459)) + (((((a0 - (((a0.toUInt32 >>> ((1 : Int32).toUInt32 &&& Int32.toUInt32 31)).toInt32) &&& 1431655765)) &&& 858993459) + ((((a0 - (((a0.toUInt32 >>> ((1 : Int32).toUInt32 &&& Int32.toUInt32 31)).toInt32) &&& 1431655765)).toUInt32 >>> ((2 : Int32).toUInt32 &&& Int32.toUInt32 31)).toInt32) &&& 858993459)).toUInt32 >>> ((4 : Int32).toUInt32 &&& Int32.toUInt32 31)).toInt32)) &&& 252645135) + (((((((a0 - (((a0.toUInt32 >>> ((1 : Int32).toUInt32 &&& Int32.toUInt32 31)).toInt32) &&& 1431655765)) &&& 858993459) + ((((a0 - (((a0.toUInt32 >>> ((1 : Int32).toUInt32 &&& Int32.toUInt32 31)).toInt32) &&& 1431655765)).toUInt32 >>> ((2 : Int32).toUInt32 &&& Int32.toUInt32 31)).toInt32) &&& 858993459)) + (((((a0 - (((a0.toUInt32 >>> ((1 : Int32).toUInt32 &&& Int32.toUInt32 31)).toInt32) &&& 1431655765)) &&& 858993459) + ((((a0 - (((a0.toUInt32 >>> ((1 : Int32).toUInt32 &&& Int32.toUInt32 31)).toInt32) &&& 1431655765)).toUInt32 >>> ((2 : Int32).toUInt32 &&& Int32.toUInt32 31)).toInt32) &&& 858993459)).toUInt32 >>> ((4 : Int32).toUInt32 &&& Int32.toUInt32 31)).toInt32)) &&& 252645135).toUInt32 >>> ((8 : Int32).toUInt32 &&& Int32.toUInt32 31)).toInt32)) + ((((((((a0 - (((a0.toUInt32 >>> ((1 : Int32).toUInt32 &&& Int32.toUInt32 31)).toInt32) &&& 1431655765)) &&& 858993459) + ((((a0 - (((a0.toUInt32 >>> ((1 : Int32).toUInt32 &&& Int32.toUInt32 31)).toInt32) &&& 1431655765)).toUInt32 >>> ((2 : Int32).toUInt32 &&& Int32.toUInt32 31)).toInt32) &&& 858993459)) + (((((a0 - (((a0.toUInt32 >>> ((1 : Int32).toUInt32 &&& Int32.toUInt32 31)).toInt32) &&& 1431655765)) &&& 858993459) + ((((a0 - (((a0.toUInt32 >>> ((1 : Int32).toUInt32 &&& Int32.toUInt32 31)).toInt32) &&& 1431655765)).toUInt32 >>> ((2 : Int32).toUInt32 &&& Int32.toUInt32 31)).toInt32) &&& 858993459)).toUInt32 >>> ((4 : Int32).toUInt32 &&& Int32.toUInt32 31)).toInt32)) &&& 252645135) + (((((((a0 - (((a0.toUInt32 >>> ((1 : Int32).toUInt32 &&& Int32.toUInt32 31)).toInt32) &&& 1431655765)) &&& 858993459) + ((((a0 - (((a0.toUInt32 >>> ((1 : Int32).toUInt32 &&& Int32.toUInt32 31)).toInt32) &&& 1431655765)).toUInt32 >>> ((2 : Int32).toUInt32 &&& Int32.toUInt32 31)).toInt32) &&& 858993459)) + (((((a0 - (((a0.toUInt32 >>> ((1 : Int32).toUInt32 &&& Int32.toUInt32 31)).toInt32) &&& 1431655765)) &&& 858993459) + ((((a0 - (((a0.toUInt32 >>> ((1 : Int32).toUInt32 &&& Int32.toUInt32 31)).toInt32) &&& 1431655765)).toUInt32 >>> ((2 : Int32).toUInt32 &&& Int32.toUInt32 31)).toInt32) &&& 858993459)).toUInt32 >>> ((4 : Int32).toUInt32 &&& Int32.toUInt32 31)).toInt32)) &&& 252645135).toUInt32 >>> ((8 : Int32).toUInt32 &&& Int32.toUInt32 31)).toInt32)).toUInt32 >>> ((16 : Int32).toUInt32 &&& Int32.toUInt32 31)).toInt32)) &&& 63)]) (fun _ _ => rfl) ?_
  rw [(show (D_J6_bitCount_0f7a4 a0) = ((((((((a0 - (((a0.toUInt32 >>> ((1 : Int32).toUInt32 &&& Int32.toUInt32 31)).toInt32) &&& 1431655765)) &&& 858993459) + ((((a0 - (((a0.toUInt32 >>> ((1 : Int32).toUInt32 &&& Int32.toUInt32 31)).toInt32) &&& 1431655765)).toUInt32 >>> ((2 : Int32).toUInt32 &&& Int32.toUInt32 31)).toInt32) &&& 858993459)) + (((((a0 - (((a0.toUInt32 >>> ((1 : Int32).toUInt32 &&& Int32.toUInt32 31)).toInt32) &&& 1431655765)) &&& 858993459) + ((((a0 - (((a0.toUInt32 >>> ((1 : Int32).toUInt32 &&& Int32.toUInt32 31)).toInt32) &&& 1431655765)).toUInt32 >>> ((2 : Int32).toUInt32 &&& Int32.toUInt32 31)).toInt32) &&& 858993459)).toUInt32 >>> ((4 : Int32).toUInt32 &&& Int32.toUInt32 31)).toInt32)) &&& 252645135) + (((((((a0 - (((a0.toUInt32 >>> ((1 : Int32).toUInt32 &&& Int32.toUInt32 31)).toInt32) &&& 1431655765)) &&& 858993459) + ((((a0 - (((a0.toUInt32 >>> ((1 : Int32).toUInt32 &&& Int32.toUInt32 31)).toInt32) &&& 1431655765)).toUInt32 >>> ((2 : Int32).toUInt32 &&& Int32.toUInt32 31)).toInt32) &&& 858993459)) + (((((a0 - (((a0.toUInt32 >>> ((1 : Int32).toUInt32 &&& Int32.toUInt32 31)).toInt32) &&& 1431655765)) &&& 858993459) + ((((a0 - (((a0.toUInt32 >>> ((1 : Int32).toUInt32 &&& Int32.toUInt32 31)).toInt32) &&& 1431655765)).toUInt32 >>> ((2 : Int32).toUInt32 &&& Int32.toUInt32 31)).toInt32) &&& 858993459)).toUInt32 >>> ((4 : Int32).toUInt32 &&& Int32.toUInt32 31)).toInt32)) &&& 252645135).toUInt32 >>> ((8 : Int32).toUInt32 &&& Int32.toUInt32 31)).toInt32)) + ((((((((a0 - (((a0.toUInt32 >>> ((1 : Int32).toUInt32 &&& Int32.toUInt32 31)).toInt32) &&& 1431655765)) &&& 858993459) + ((((a0 - (((a0.toUInt32 >>> ((1 : Int32).toUInt32 &&& Int32.toUInt32 31)).toInt32) &&& 1431655765)).toUInt32 >>> ((2 : Int32).toUInt32 &&& Int32.toUInt32 31)).toInt32) &&& 858993459)) + (((((a0 - (((a0.toUInt32 >>> ((1 : Int32).toUInt32 &&& Int32.toUInt32 31)).toInt32) &&& 1431655765)) &&& 858993459) + ((((a0 - (((a0.toUInt32 >>> ((1 : Int32).toUInt32 &&& Int32.toUInt32 31)).toInt32) &&& 1431655765)).toUInt32 >>> ((2 : Int32).toUInt32 &&& Int32.toUInt32 31)).toInt32) &&& 858993459)).toUInt32 >>> ((4 : Int32).toUInt32 &&& Int32.toUInt32 31)).toInt32)) &&& 252645135) + (((((((a0 - (((a0.toUInt32 >>> ((1 : Int32).toUInt32 &&& Int32.toUInt32 31)).toInt32) &&& 1431655765)) &&& 858993459) + ((((a0 - (((a0.toUInt32 >>> ((1 : Int32).toUInt32 &&& Int32.toUInt32 31)).toInt32) &&& 1431655765)).toUInt32 >>> ((2 : Int32).toUInt32 &&& Int32.toUInt32 31)).toInt32) &&& 858993459)) + (((((a0 - (((a0.toUInt32 >>> ((1 : Int32).toUInt32 &&& Int32.toUInt32 31)).toInt32) &&& 1431655765)) &&& 858993459) + ((((a0 - (((a0.toUInt32 >>> ((1 : Int32).toUInt32 &&& Int32.toUInt32 31)).toInt32) &&& 1431655765)).toUInt32 >>> ((2 : Int32).toUInt32 &&& Int32.toUInt32 31)).toInt32) &&& 858993459)).toUInt32 >>> ((4 : Int32).toUInt32 &&& Int32.toUInt32 31)).toInt32)) &&& 252645135).toUInt32 >>> ((8 : Int32).toUInt32 &&& Int32.toUInt32 31)).toInt32)).toUInt32 >>> ((16 : Int32).toUInt32 &&& Int32.toUInt32 31)).toInt32)) &&& 63) from rfl)]
  exact rx_ri rfl
theorem rc_J6_bitCount_0f7a4 {hh : EH} {a0 : Int32} : Rc sc 1 209 [.int a0] hh (some (.int (D_J6_bitCount_0f7a4 a0))) hh := rx_mc (m_J6_bitCount_0f7a4) rfl rfl (Nat.ble_eq_true_of_le (Nat.le_refl _)) (Nat.ble_eq_true_of_le (Nat.le_refl _))
-- LinkHarbour$LibraryTable.countLoaded
noncomputable def D_X4_countLoaded (s : Sg) : Int32 := (D_J6_bitCount_0f7a4 (D_X4_loaded s))
theorem m_X4_countLoaded (hP : WOK b w H0) {s : Sg} (hN : NN s) : Rx sc g_X4_countLoaded 4 ((0, [(0, .ref (b + 23))], [])) (wd b w wl H0 s, kn) (some (.int (D_X4_countLoaded s))) (wd b w wl H0 s, kn) := by
  show Rx sc g_X4_countLoaded 4 (0, [(0, .ref (b + 23))], []) (wd b w wl H0 s, kn) (some (.int (D_X4_countLoaded s))) (wd b w wl H0 s, kn)
  refine rx_k 1 (1, [(0, .ref (b + 23))], [.ref (b + 23)]) (fun _ _ => rfl) ?_
  refine rx_inv rfl rfl (rc_X4_loaded hP hN) rfl rfl rfl (q_recv (wg_23 hP)) rfl rfl ?_
  refine rx_inv rfl rfl (rc_J6_bitCount_0f7a4) rfl rfl rfl rfl rfl rfl ?_
  rw [(show (D_X4_countLoaded s) = (D_J6_bitCount_0f7a4 (D_X4_loaded s)) from rfl)]
  exact rx_ri rfl
theorem rc_X4_countLoaded (hP : WOK b w H0) {s : Sg} (hN : NN s) : Rc sc 5 59 [.ref (b + 23)] (wd b w wl H0 s, kn) (some (.int (D_X4_countLoaded s))) (wd b w wl H0 s, kn) := rx_mc (m_X4_countLoaded hP hN) rfl rfl (Nat.ble_eq_true_of_le (Nat.le_refl _)) (Nat.ble_eq_true_of_le (Nat.le_refl _))
-- LinkHarbour$LibraryTable.countGlobal
noncomputable def D_X4_countGlobal (s : Sg) : Int32 := (s 23 14)
theorem m_X4_countGlobal (hP : WOK b w H0) {s : Sg} : Rx sc g_X4_countGlobal 0 ((0, [(0, .ref (b + 23))], [])) (wd b w wl H0 s, kn) (some (.int (D_X4_countGlobal s))) (wd b w wl H0 s, kn) := by
  show Rx sc g_X4_countGlobal 0 (0, [(0, .ref (b + 23))], []) (wd b w wl H0 s, kn) (some (.int (D_X4_countGlobal s))) (wd b w wl H0 s, kn)
  refine rx_k 1 (1, [(0, .ref (b + 23))], [.ref (b + 23)]) (fun _ _ => rfl) ?_
  refine rx_getf rfl rfl (wg_23 hP) rfl ?_
  rw [(show (D_X4_countGlobal s) = (s 23 14) from rfl)]
  exact rx_ri rfl
theorem rc_X4_countGlobal (hP : WOK b w H0) {s : Sg} : Rc sc 1 60 [.ref (b + 23)] (wd b w wl H0 s, kn) (some (.int (D_X4_countGlobal s))) (wd b w wl H0 s, kn) := rx_mc (m_X4_countGlobal hP) rfl rfl (Nat.ble_eq_true_of_le (Nat.le_refl _)) (Nat.ble_eq_true_of_le (Nat.le_refl _))
-- LinkHarbour$LibraryTable.countBindings
def fr_X4_countBindings_4 (b w : Nat) (x2 : Int32) (x1 : Int32) : EF := (4, [(0, .ref (b + 23)), (1, .int x1), (2, .int x2)], [])
def fe_X4_countBindings_4 (b w : Nat) (x2 : Int32) (x1 : Int32) : EF := (29, [(1, .int x1)], [])
noncomputable def B_X4_countBindings_4 (s : Sg) (x2 : Int32) (x1 : Int32) : Bool × (Int32 × Int32) := (if 120 ≤ x2 then (false, (x2, x1)) else (if (s 31 x2.toNatClampNeg) = (-1) then (true, ((x2 + 1), x1)) else (true, ((x2 + 1), (x1 + 1)))))
theorem b_X4_countBindings_4 (hP : WOK b w H0) {s : Sg} {x2 : Int32} {x1 : Int32} (o : Option Value) (h' : EH) (hN : NN s) (hv : 0 ≤ x2.toInt) (hc : ∀ (t2 : Int32) (t1 : Int32), (B_X4_countBindings_4 s x2 x1) = (true, (t2, t1)) → x2.toInt < 2147483647 → t2 = x2 + 1 → Rx sc g_X4_countBindings 0 (fr_X4_countBindings_4 b w t2 t1) (wd b w wl H0 s, kn) o h') (he : ∀ (t2 : Int32) (t1 : Int32), (B_X4_countBindings_4 s x2 x1) = (false, (t2, t1)) → Rx sc g_X4_countBindings 0 (fe_X4_countBindings_4 b w t2 t1) (wd b w wl H0 s, kn) o h') : Rx sc g_X4_countBindings 0 (fr_X4_countBindings_4 b w x2 x1) (wd b w wl H0 s, kn) o h' := by
  show Rx sc g_X4_countBindings 0 (4, [(0, .ref (b + 23)), (1, .int x1), (2, .int x2)], []) (wd b w wl H0 s, kn) o h'
  refine rx_k 2 (7, [(0, .ref (b + 23)), (1, .int x1), (2, .int x2)], [.int 120, .int x2]) (fun _ _ => rfl) ?_
  by_cases c0 : 120 ≤ x2
  · refine rx_icT rfl (bt c0) ?_
    exact rx_lo am_X4_countBindings (lo := [(1, .int x1)]) (List.forall_mem_cons.mpr ⟨List.mem_of_getElem? (i := 1) rfl, (fun _ h => absurd h List.not_mem_nil)⟩) rfl (he _ _ (show (B_X4_countBindings_4 s x2 x1) = (false, (x2, x1)) from ((if_pos c0).trans rfl)))
  · refine rx_icF rfl (bf c0) rfl ?_
    refine rx_k 1 (11, [(0, .ref (b + 23)), (1, .int x1), (2, .int x2)], [.ref (b + 23)]) (fun _ _ => rfl) ?_
    refine rx_getf rfl rfl (wg_23 hP) rfl ?_
    refine rx_k 1 (15, [(0, .ref (b + 23)), (1, .int x1), (2, .int x2)], [.int x2, .ref (b + 31)]) (fun _ _ => rfl) ?_
    refine rx_ild rfl rfl (wg_31 hP) (ar_at (rg_c hv c0 (m := 120) (n := 120) rfl)) ?_
    refine rx_k 1 (17, [(0, .ref (b + 23)), (1, .int x1), (2, .int x2)], [.int (-1), .int (s 31 x2.toNatClampNeg)]) (fun _ _ => rfl) ?_
    by_cases c1 : (s 31 x2.toNatClampNeg) = (-1)
    · refine rx_icT rfl (bt c1) ?_
      refine rx_k 2 (4, [(2, .int (x2 + 1)), (0, .ref (b + 23)), (1, .int x1)], []) (fun _ _ => rfl) ?_
      refine rx_lo am_X4_countBindings (lo := [(0, .ref (b + 23)), (1, .int x1), (2, .int (x2 + 1))]) (List.forall_mem_cons.mpr ⟨List.mem_of_getElem? (i := 1) rfl, (List.forall_mem_cons.mpr ⟨List.mem_of_getElem? (i := 2) rfl, (List.forall_mem_cons.mpr ⟨List.mem_of_getElem? (i := 0) rfl, (fun _ h => absurd h List.not_mem_nil)⟩)⟩)⟩) rfl (hc _ _ (show (B_X4_countBindings_4 s x2 x1) = (true, ((x2 + 1), x1)) from ((if_neg c0).trans ((if_pos c1).trans rfl))) (lt_nle c0) rfl)
    · refine rx_icF rfl (bf c1) rfl ?_
      refine rx_k 3 (4, [(2, .int (x2 + 1)), (1, .int (x1 + 1)), (0, .ref (b + 23))], []) (fun _ _ => rfl) ?_
      refine rx_lo am_X4_countBindings (lo := [(0, .ref (b + 23)), (1, .int (x1 + 1)), (2, .int (x2 + 1))]) (List.forall_mem_cons.mpr ⟨List.mem_of_getElem? (i := 2) rfl, (List.forall_mem_cons.mpr ⟨List.mem_of_getElem? (i := 1) rfl, (List.forall_mem_cons.mpr ⟨List.mem_of_getElem? (i := 0) rfl, (fun _ h => absurd h List.not_mem_nil)⟩)⟩)⟩) rfl (hc _ _ (show (B_X4_countBindings_4 s x2 x1) = (true, ((x2 + 1), (x1 + 1))) from ((if_neg c0).trans ((if_neg c1).trans rfl))) (lt_nle c0) rfl)
noncomputable def R_X4_countBindings_29 (s : Sg) (a1 : Int32) : Int32 := a1
theorem r_X4_countBindings_29 (hP : WOK b w H0) {s : Sg} {a1 : Int32} (hN : NN s) : Rx sc g_X4_countBindings 0 ((29, [(1, .int a1)], [])) (wd b w wl H0 s, kn) (some (.int (R_X4_countBindings_29 s a1))) (wd b w wl H0 s, kn) := by
  show Rx sc g_X4_countBindings 0 (29, [(1, .int a1)], []) (wd b w wl H0 s, kn) (some (.int (R_X4_countBindings_29 s a1))) (wd b w wl H0 s, kn)
  refine rx_k 1 (30, [(1, .int a1)], [.int a1]) (fun _ _ => rfl) ?_
  rw [(show (R_X4_countBindings_29 s a1) = a1 from rfl)]
  exact rx_ri rfl
noncomputable def D_X4_countBindings (s : Sg) : Int32 := (R_X4_countBindings_29 s ((itr (uc2 (B_X4_countBindings_4 s)) BIG (0, 0)).2))
theorem m_X4_countBindings (hP : WOK b w H0) {s : Sg} (hN : NN s) : Rx sc g_X4_countBindings 0 ((0, [(0, .ref (b + 23))], [])) (wd b w wl H0 s, kn) (some (.int (D_X4_countBindings s))) (wd b w wl H0 s, kn) := by
  show Rx sc g_X4_countBindings 0 (0, [(0, .ref (b + 23))], []) (wd b w wl H0 s, kn) (some (.int (D_X4_countBindings s))) (wd b w wl H0 s, kn)
  refine rx_k 4 (4, [(2, .int 0), (1, .int 0), (0, .ref (b + 23))], []) (fun _ _ => rfl) ?_
  refine rx_lo am_X4_countBindings (lo := [(0, .ref (b + 23)), (1, .int 0), (2, .int 0)]) (List.forall_mem_cons.mpr ⟨List.mem_of_getElem? (i := 2) rfl, (List.forall_mem_cons.mpr ⟨List.mem_of_getElem? (i := 1) rfl, (List.forall_mem_cons.mpr ⟨List.mem_of_getElem? (i := 0) rfl, (fun _ h => absurd h List.not_mem_nil)⟩)⟩)⟩) rfl ?_
  refine rx_loop2p (B := B_X4_countBindings_4 s) (fr := (fr_X4_countBindings_4 b w)) (E := (fe_X4_countBindings_4 b w)) (hp := (wd b w wl H0 s, kn)) (fun z2 z1 oo hh9 hI9 hv9 hc9 he9 => b_X4_countBindings_4 hP oo hh9 hN hv9 hc9 he9)  BIG 0 0 _ _  (by decide : (0 : Int) ≤ (0 : Int32).toInt) (le_enough (by decide : (0 : Int) ≤ (0 : Int32).toInt)) ?_
  rw [(show (D_X4_countBindings s) = (R_X4_countBindings_29 s ((itr (uc2 (B_X4_countBindings_4 s)) BIG (0, 0)).2)) from rfl)]
  exact r_X4_countBindings_29 hP hN
theorem rc_X4_countBindings (hP : WOK b w H0) {s : Sg} (hN : NN s) : Rc sc 1 61 [.ref (b + 23)] (wd b w wl H0 s, kn) (some (.int (D_X4_countBindings s))) (wd b w wl H0 s, kn) := rx_mc (m_X4_countBindings hP hN) rfl rfl (Nat.ble_eq_true_of_le (Nat.le_refl _)) (Nat.ble_eq_true_of_le (Nat.le_refl _))
-- LinkHarbour$Reaching.imports
noncomputable def D_X7_imports (q : Nat) (s : Sg) : Int32 := (s (q + 12) 7)
theorem m_X7_imports (hP : WOK b w H0) {q : Nat} (hq : q = 38 ∨ q = 60) {s : Sg} : Rx sc g_X7_imports 0 ((0, [(0, .ref (b + (q + 12)))], [])) (wd b w wl H0 s, kn) (some (.int (D_X7_imports q s))) (wd b w wl H0 s, kn) := by
  show Rx sc g_X7_imports 0 (0, [(0, .ref (b + (q + 12)))], []) (wd b w wl H0 s, kn) (some (.int (D_X7_imports q s))) (wd b w wl H0 s, kn)
  refine rx_k 1 (1, [(0, .ref (b + (q + 12)))], [.ref (b + (q + 12))]) (fun _ _ => rfl) ?_
  refine rx_getf rfl rfl (wl_12 hP hq) rfl ?_
  rw [(show (D_X7_imports q s) = (s (q + 12) 7) from rfl)]
  exact rx_ri rfl
theorem rc_X7_imports (hP : WOK b w H0) {q : Nat} (hq : q = 38 ∨ q = 60) {s : Sg} : Rc sc 1 108 [.ref (b + (q + 12))] (wd b w wl H0 s, kn) (some (.int (D_X7_imports q s))) (wd b w wl H0 s, kn) := rx_mc (m_X7_imports hP hq) rfl rfl (Nat.ble_eq_true_of_le (Nat.le_refl _)) (Nat.ble_eq_true_of_le (Nat.le_refl _))
-- LinkHarbour$Settling.isHidden
noncomputable def D_X9_isHidden (q : Nat) (s : Sg) (a1 : Int32) : Int32 := (if (D_X11_isName a1) = 0 then 0 else (if (D_X11_hasBit (s (q + 5) 8) a1) = 0 then 0 else 1))
theorem m_X9_isHidden (hP : WOK b w H0) {q : Nat} (hq : q = 38 ∨ q = 60) {s : Sg} {a1 : Int32} : Rx sc g_X9_isHidden 1 ((0, [(0, .ref (b + (q + 5))), (1, .int a1)], [])) (wd b w wl H0 s, kn) (some (.int (D_X9_isHidden q s a1))) (wd b w wl H0 s, kn) := by
  show Rx sc g_X9_isHidden 1 (0, [(0, .ref (b + (q + 5))), (1, .int a1)], []) (wd b w wl H0 s, kn) (some (.int (D_X9_isHidden q s a1))) (wd b w wl H0 s, kn)
  refine rx_k 1 (1, [(0, .ref (b + (q + 5))), (1, .int a1)], [.int a1]) (fun _ _ => rfl) ?_
  refine rx_inv rfl rfl (rc_X11_isName) rfl rfl rfl rfl rfl rfl ?_
  by_cases c0 : (D_X11_isName a1) = 0
  · refine rx_ifT rfl (bt c0) ?_
    refine rx_k 1 (23, [(0, .ref (b + (q + 5))), (1, .int a1)], [.int 0]) (fun _ _ => rfl) ?_
    rw [(show (D_X9_isHidden q s a1) = 0 from ((if_pos c0).trans rfl))]
    exact rx_ri rfl
  · refine rx_ifF rfl (bf c0) rfl ?_
    refine rx_k 1 (8, [(0, .ref (b + (q + 5))), (1, .int a1)], [.ref (b + (q + 5))]) (fun _ _ => rfl) ?_
    refine rx_getf rfl rfl (wl_5 hP hq) rfl ?_
    refine rx_k 1 (12, [(0, .ref (b + (q + 5))), (1, .int a1)], [.int a1, .int (s (q + 5) 8)]) (fun _ _ => rfl) ?_
    refine rx_inv rfl rfl (rc_X11_hasBit) rfl rfl rfl rfl rfl rfl ?_
    by_cases c1 : (D_X11_hasBit (s (q + 5) 8) a1) = 0
    · refine rx_ifT rfl (bt c1) ?_
      refine rx_k 1 (23, [(0, .ref (b + (q + 5))), (1, .int a1)], [.int 0]) (fun _ _ => rfl) ?_
      rw [(show (D_X9_isHidden q s a1) = 0 from ((if_neg c0).trans ((if_pos c1).trans rfl)))]
      exact rx_ri rfl
    · refine rx_ifF rfl (bf c1) rfl ?_
      refine rx_k 2 (23, [(0, .ref (b + (q + 5))), (1, .int a1)], [.int 1]) (fun _ _ => rfl) ?_
      rw [(show (D_X9_isHidden q s a1) = 1 from ((if_neg c0).trans ((if_neg c1).trans rfl)))]
      exact rx_ri rfl
theorem bz_X9_isHidden {q : Nat} {s : Sg} {a1 : Int32} : bz (D_X9_isHidden q s a1) = true := by
  by_cases c0 : (D_X11_isName a1) = 0
  · rw [show (D_X9_isHidden q s a1) = 0 from ((if_pos c0).trans rfl)]
    exact rfl
  · by_cases c1 : (D_X11_hasBit (s (q + 5) 8) a1) = 0
    · rw [show (D_X9_isHidden q s a1) = 0 from ((if_neg c0).trans ((if_pos c1).trans rfl))]
      exact rfl
    · rw [show (D_X9_isHidden q s a1) = 1 from ((if_neg c0).trans ((if_neg c1).trans rfl))]
      exact rfl
theorem rc_X9_isHidden (hP : WOK b w H0) {q : Nat} (hq : q = 38 ∨ q = 60) {s : Sg} {a1 : Int32} : Rc sc 2 144 [.ref (b + (q + 5)), .int a1] (wd b w wl H0 s, kn) (some (.int (D_X9_isHidden q s a1))) (wd b w wl H0 s, kn) := rx_mc (m_X9_isHidden hP hq) rfl (bz_X9_isHidden ..) (Nat.ble_eq_true_of_le (Nat.le_refl _)) (Nat.ble_eq_true_of_le (Nat.le_refl _))
end DD
