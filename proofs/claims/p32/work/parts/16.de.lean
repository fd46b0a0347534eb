section DD
variable {sc : Nat × (Nat → Int32)} {b w wl : Nat} {H0 : List EC} {kn : Nat × Nat}
-- LinkHarbour$LibraryTable.without
def fr_X4_without_33_5 (b w : Nat) (a1 : Int32) (a2 : Int32) (x4 : Int32) (x3 : Int32) : EF := (5, [(0, .ref (b + 33)), (1, .int a1), (2, .int a2), (3, .int x3), (4, .int x4)], [])
def fe_X4_without_33_5 (b w : Nat) (a1 : Int32) (a2 : Int32) (x4 : Int32) (x3 : Int32) : EF := (51, [(3, .int x3)], [])
noncomputable def B_X4_without_33_5 (a1 : Int32) (a2 : Int32) (x4 : Int32) (x3 : Int32) (s : Sg) : Bool × (Int32 × Int32 × Sg) := (if a1 ≤ x4 then (false, (x4, x3, s)) else (if 6 ≤ x4 then (false, (x4, x3, s)) else (if (D_X11_hasBit a2 (s 33 x4.toNatClampNeg)) = 0 then (if 6 ≤ x3 then (true, ((x4 + 1), x3, s)) else (true, ((x4 + 1), (x3 + 1), (up s 33 x3.toNatClampNeg (s 33 x4.toNatClampNeg))))) else (true, ((x4 + 1), x3, s)))))
theorem b_X4_without_33_5 (hP : WOK b w H0) {s : Sg} {a1 : Int32} {a2 : Int32} {x4 : Int32} {x3 : Int32} (o : Option Value) (h' : EH) (hN : NN s) (hv : 0 ≤ x4.toInt) (hp : 0 ≤ x3.toInt) (hc : ∀ (t4 : Int32) (t3 : Int32) (ts : Sg), (B_X4_without_33_5 a1 a2 x4 x3 s) = (true, (t4, t3, ts)) → x4.toInt < 2147483647 → t4 = x4 + 1 → Rx sc g_X4_without 1 (fr_X4_without_33_5 b w a1 a2 t4 t3) (wd b w wl H0 ts, kn) o h') (he : ∀ (t4 : Int32) (t3 : Int32) (ts : Sg), (B_X4_without_33_5 a1 a2 x4 x3 s) = (false, (t4, t3, ts)) → Rx sc g_X4_without 1 (fe_X4_without_33_5 b w a1 a2 t4 t3) (wd b w wl H0 ts, kn) o h') : Rx sc g_X4_without 1 (fr_X4_without_33_5 b w a1 a2 x4 x3) (wd b w wl H0 s, kn) o h' := by
  show Rx sc g_X4_without 1 (5, [(0, .ref (b + 33)), (1, .int a1), (2, .int a2), (3, .int x3), (4, .int x4)], []) (wd b w wl H0 s, kn) o h'
  refine rx_k 2 (8, [(0, .ref (b + 33)), (1, .int a1), (2, .int a2), (3, .int x3), (4, .int x4)], [.int a1, .int x4]) (fun _ _ => rfl) ?_
  by_cases c0 : a1 ≤ x4
  · refine rx_icT rfl (bt c0) ?_
    exact rx_lo am_X4_without (lo := [(3, .int x3)]) (List.forall_mem_cons.mpr ⟨List.mem_of_getElem? (i := 3) rfl, (fun _ h => absurd h List.not_mem_nil)⟩) rfl (he _ _ _ (show (B_X4_without_33_5 a1 a2 x4 x3 s) = (false, (x4, x3, s)) from ((if_pos c0).trans rfl)))
  · refine rx_icF rfl (bf c0) rfl ?_
    refine rx_k 2 (14, [(0, .ref (b + 33)), (1, .int a1), (2, .int a2), (3, .int x3), (4, .int x4)], [.ref (b + 33), .int x4]) (fun _ _ => rfl) ?_
    refine rx_alen (z := 6) rfl rfl (wg_33 hP) rfl rfl ?_
    by_cases c1 : 6 ≤ x4
    · refine rx_icT rfl (bt c1) ?_
      exact rx_lo am_X4_without (lo := [(3, .int x3)]) (List.forall_mem_cons.mpr ⟨List.mem_of_getElem? (i := 3) rfl, (fun _ h => absurd h List.not_mem_nil)⟩) rfl (he _ _ _ (show (B_X4_without_33_5 a1 a2 x4 x3 s) = (false, (x4, x3, s)) from ((if_neg c0).trans ((if_pos c1).trans rfl))))
    · refine rx_icF rfl (bf c1) rfl ?_
      refine rx_k 3 (22, [(0, .ref (b + 33)), (1, .int a1), (2, .int a2), (3, .int x3), (4, .int x4)], [.int x4, .ref (b + 33), .int a2]) (fun _ _ => rfl) ?_
      refine rx_ild rfl rfl (wg_33 hP) (ar_at (rg_c hv c1 (m := 6) (n := 6) rfl)) ?_
      refine rx_inv rfl rfl (rc_X11_hasBit) rfl rfl rfl rfl rfl rfl ?_
      by_cases c2 : (D_X11_hasBit a2 (s 33 x4.toNatClampNeg)) = 0
      · refine rx_ifF rfl (nf c2) rfl ?_
        refine rx_k 2 (31, [(0, .ref (b + 33)), (1, .int a1), (2, .int a2), (3, .int x3), (4, .int x4)], [.ref (b + 33), .int x3]) (fun _ _ => rfl) ?_
        refine rx_alen (z := 6) rfl rfl (wg_33 hP) rfl rfl ?_
        by_cases c3 : 6 ≤ x3
        · refine rx_icT rfl (bt c3) ?_
          refine rx_k 2 (5, [(4, .int (x4 + 1)), (0, .ref (b + 33)), (1, .int a1), (2, .int a2), (3, .int x3)], []) (fun _ _ => rfl) ?_
          refine rx_lo am_X4_without (lo := [(0, .ref (b + 33)), (1, .int a1), (2, .int a2), (3, .int x3), (4, .int (x4 + 1))]) (List.forall_mem_cons.mpr ⟨List.mem_of_getElem? (i := 1) rfl, (List.forall_mem_cons.mpr ⟨List.mem_of_getElem? (i := 2) rfl, (List.forall_mem_cons.mpr ⟨List.mem_of_getElem? (i := 3) rfl, (List.forall_mem_cons.mpr ⟨List.mem_of_getElem? (i := 4) rfl, (List.forall_mem_cons.mpr ⟨List.mem_of_getElem? (i := 0) rfl, (fun _ h => absurd h List.not_mem_nil)⟩)⟩)⟩)⟩)⟩) rfl (hc _ _ _ (show (B_X4_without_33_5 a1 a2 x4 x3 s) = (true, ((x4 + 1), x3, s)) from ((if_neg c0).trans ((if_neg c1).trans ((if_pos c2).trans ((if_pos c3).trans rfl))))) (lt_nle c0) rfl)
        · refine rx_icF rfl (bf c3) rfl ?_
          refine rx_k 4 (40, [(0, .ref (b + 33)), (1, .int a1), (2, .int a2), (3, .int x3), (4, .int x4)], [.int x4, .ref (b + 33), .int x3, .ref (b + 33)]) (fun _ _ => rfl) ?_
          refine rx_ild rfl rfl (wg_33 hP) (ar_at (rg_c hv c1 (m := 6) (n := 6) rfl)) ?_
          refine rx_ist rfl rfl (wg_33 hP) rfl (ar_at (rg_c hp c3 (m := 6) (n := 6) rfl)) (ws_33 hP (rg_c hp c3 (m := 6) (n := 6) rfl)) ?_
          refine rx_k 3 (5, [(4, .int (x4 + 1)), (3, .int (x3 + 1)), (0, .ref (b + 33)), (1, .int a1), (2, .int a2)], []) (fun _ _ => rfl) ?_
          refine rx_lo am_X4_without (lo := [(0, .ref (b + 33)), (1, .int a1), (2, .int a2), (3, .int (x3 + 1)), (4, .int (x4 + 1))]) (List.forall_mem_cons.mpr ⟨List.mem_of_getElem? (i := 2) rfl, (List.forall_mem_cons.mpr ⟨List.mem_of_getElem? (i := 3) rfl, (List.forall_mem_cons.mpr ⟨List.mem_of_getElem? (i := 4) rfl, (List.forall_mem_cons.mpr ⟨List.mem_of_getElem? (i := 1) rfl, (List.forall_mem_cons.mpr ⟨List.mem_of_getElem? (i := 0) rfl, (fun _ h => absurd h List.not_mem_nil)⟩)⟩)⟩)⟩)⟩) rfl (hc _ _ _ (show (B_X4_without_33_5 a1 a2 x4 x3 s) = (true, ((x4 + 1), (x3 + 1), (up s 33 x3.toNatClampNeg (s 33 x4.toNatClampNeg)))) from ((if_neg c0).trans ((if_neg c1).trans ((if_pos c2).trans ((if_neg c3).trans rfl))))) (lt_nle c0) rfl)
      · refine rx_ifT rfl (nt c2) ?_
        refine rx_k 2 (5, [(4, .int (x4 + 1)), (0, .ref (b + 33)), (1, .int a1), (2, .int a2), (3, .int x3)], []) (fun _ _ => rfl) ?_
        refine rx_lo am_X4_without (lo := [(0, .ref (b + 33)), (1, .int a1), (2, .int a2), (3, .int x3), (4, .int (x4 + 1))]) (List.forall_mem_cons.mpr ⟨List.mem_of_getElem? (i := 1) rfl, (List.forall_mem_cons.mpr ⟨List.mem_of_getElem? (i := 2) rfl, (List.forall_mem_cons.mpr ⟨List.mem_of_getElem? (i := 3) rfl, (List.forall_mem_cons.mpr ⟨List.mem_of_getElem? (i := 4) rfl, (List.forall_mem_cons.mpr ⟨List.mem_of_getElem? (i := 0) rfl, (fun _ h => absurd h List.not_mem_nil)⟩)⟩)⟩)⟩)⟩) rfl (hc _ _ _ (show (B_X4_without_33_5 a1 a2 x4 x3 s) = (true, ((x4 + 1), x3, s)) from ((if_neg c0).trans ((if_neg c1).trans ((if_neg c2).trans rfl)))) (lt_nle c0) rfl)
theorem nb_X4_without_33_5 {a1 : Int32} {a2 : Int32} {x4 : Int32} {x3 : Int32} {s : Sg} (hN : NN s) (hp : 0 ≤ x3.toInt) : ∃ (f : Bool) (t4 : Int32) (t3 : Int32) (ts : Sg), (B_X4_without_33_5 a1 a2 x4 x3 s) = (f, (t4, t3, ts)) ∧ NN ts ∧ 0 ≤ t3.toInt := by
  by_cases c0 : a1 ≤ x4
  · exact ⟨_, _, _, _, (show (B_X4_without_33_5 a1 a2 x4 x3 s) = (false, (x4, x3, s)) from ((if_pos c0).trans rfl)), hN, hp⟩
  · by_cases c1 : 6 ≤ x4
    · exact ⟨_, _, _, _, (show (B_X4_without_33_5 a1 a2 x4 x3 s) = (false, (x4, x3, s)) from ((if_neg c0).trans ((if_pos c1).trans rfl))), hN, hp⟩
    · by_cases c2 : (D_X11_hasBit a2 (s 33 x4.toNatClampNeg)) = 0
      · by_cases c3 : 6 ≤ x3
        · exact ⟨_, _, _, _, (show (B_X4_without_33_5 a1 a2 x4 x3 s) = (true, ((x4 + 1), x3, s)) from ((if_neg c0).trans ((if_neg c1).trans ((if_pos c2).trans ((if_pos c3).trans rfl))))), hN, (i_ge0 (Int32.not_lt.mpr c3) (m := 6) (n := 6) rfl (by decide))⟩
        · exact ⟨_, _, _, _, (show (B_X4_without_33_5 a1 a2 x4 x3 s) = (true, ((x4 + 1), (x3 + 1), (up s 33 x3.toNatClampNeg (s 33 x4.toNatClampNeg)))) from ((if_neg c0).trans ((if_neg c1).trans ((if_pos c2).trans ((if_neg c3).trans rfl))))), (nn_0 rfl hN), (nn_inc (rg_c hp c3 (m := 6) (n := 6) rfl).1 (lt_nle c3) (by decide))⟩
      · exact ⟨_, _, _, _, (show (B_X4_without_33_5 a1 a2 x4 x3 s) = (true, ((x4 + 1), x3, s)) from ((if_neg c0).trans ((if_neg c1).trans ((if_neg c2).trans rfl)))), hN, hp⟩
noncomputable def R_X4_without_33_51 (s : Sg) (a3 : Int32) : Int32 × Sg := (a3, s)
theorem r_X4_without_33_51 (hP : WOK b w H0) {s : Sg} {a3 : Int32} (hN : NN s) (hp : 0 ≤ a3.toInt) : Rx sc g_X4_without 1 ((51, [(3, .int a3)], [])) (wd b w wl H0 s, kn) (some (.int (R_X4_without_33_51 s a3).1)) (wd b w wl H0 (R_X4_without_33_51 s a3).2, kn) := by
  show Rx sc g_X4_without 1 (51, [(3, .int a3)], []) (wd b w wl H0 s, kn) (some (.int (R_X4_without_33_51 s a3).1)) (wd b w wl H0 (R_X4_without_33_51 s a3).2, kn)
  refine rx_k 1 (52, [(3, .int a3)], [.int a3]) (fun _ _ => rfl) ?_
  rw [(show (R_X4_without_33_51 s a3) = (a3, s) from rfl)]
  exact rx_ri rfl
theorem nr_X4_without_33_51 {s : Sg} {a3 : Int32} (hN : NN s) (hp : 0 ≤ a3.toInt) : NN ((R_X4_without_33_51 s a3).2) := by
  exact pair_of (P := fun zs => NN zs) (show (R_X4_without_33_51 s a3) = (a3, s) from rfl) hN
noncomputable def D_X4_without_33 (s : Sg) (a1 : Int32) (a2 : Int32) : Int32 × Sg := (R_X4_without_33_51 ((itr (uc3 (B_X4_without_33_5 a1 a2)) BIG (0, 0, s)).2.2) ((itr (uc3 (B_X4_without_33_5 a1 a2)) BIG (0, 0, s)).2.1))
theorem m_X4_without_33 (hP : WOK b w H0) {s : Sg} {a1 : Int32} {a2 : Int32} (hN : NN s) : Rx sc g_X4_without 1 ((0, [(0, .ref (b + 33)), (1, .int a1), (2, .int a2)], [])) (wd b w wl H0 s, kn) (some (.int (D_X4_without_33 s a1 a2).1)) (wd b w wl H0 (D_X4_without_33 s a1 a2).2, kn) := by
  show Rx sc g_X4_without 1 (0, [(0, .ref (b + 33)), (1, .int a1), (2, .int a2)], []) (wd b w wl H0 s, kn) (some (.int (D_X4_without_33 s a1 a2).1)) (wd b w wl H0 (D_X4_without_33 s a1 a2).2, kn)
  refine rx_k 4 (5, [(4, .int 0), (3, .int 0), (0, .ref (b + 33)), (1, .int a1), (2, .int a2)], []) (fun _ _ => rfl) ?_
  refine rx_lo am_X4_without (lo := [(0, .ref (b + 33)), (1, .int a1), (2, .int a2), (3, .int 0), (4, .int 0)]) (List.forall_mem_cons.mpr ⟨List.mem_of_getElem? (i := 2) rfl, (List.forall_mem_cons.mpr ⟨List.mem_of_getElem? (i := 3) rfl, (List.forall_mem_cons.mpr ⟨List.mem_of_getElem? (i := 4) rfl, (List.forall_mem_cons.mpr ⟨List.mem_of_getElem? (i := 1) rfl, (List.forall_mem_cons.mpr ⟨List.mem_of_getElem? (i := 0) rfl, (fun _ h => absurd h List.not_mem_nil)⟩)⟩)⟩)⟩)⟩) rfl ?_
  refine rx_loop3s (B := B_X4_without_33_5 a1 a2) (fr := (fr_X4_without_33_5 b w a1 a2)) (E := (fe_X4_without_33_5 b w a1 a2)) (I := fun z4 z3 zs => NN zs ∧ 0 ≤ z3.toInt) (fun z4 z3 zs oo hh9 hI9 hv9 hc9 he9 => b_X4_without_33_5 hP oo hh9 hI9.1 hv9 hI9.2 hc9 he9) (fun z4 z3 zs hz => nb_X4_without_33_5 hz.1 hz.2) BIG 0 0 s _ _ ⟨hN, (by decide : (0 : Int) ≤ (0 : Int32).toInt)⟩ (by decide : (0 : Int) ≤ (0 : Int32).toInt) (le_enough (by decide : (0 : Int) ≤ (0 : Int32).toInt)) ?_
  rw [(show (D_X4_without_33 s a1 a2) = (R_X4_without_33_51 ((itr (uc3 (B_X4_without_33_5 a1 a2)) BIG (0, 0, s)).2.2) ((itr (uc3 (B_X4_without_33_5 a1 a2)) BIG (0, 0, s)).2.1)) from rfl)]
  exact r_X4_without_33_51 hP (itr_inv3 (B := B_X4_without_33_5 a1 a2) (I := fun z4 z3 zs => NN zs ∧ 0 ≤ z3.toInt) (fun z4 z3 zs hz => nb_X4_without_33_5 hz.1 hz.2) BIG 0 0 s ⟨hN, (by decide : (0 : Int) ≤ (0 : Int32).toInt)⟩).1 (itr_inv3 (B := B_X4_without_33_5 a1 a2) (I := fun z4 z3 zs => NN zs ∧ 0 ≤ z3.toInt) (fun z4 z3 zs hz => nb_X4_without_33_5 hz.1 hz.2) BIG 0 0 s ⟨hN, (by decide : (0 : Int) ≤ (0 : Int32).toInt)⟩).2
theorem rc_X4_without_33 (hP : WOK b w H0) {s : Sg} {a1 : Int32} {a2 : Int32} (hN : NN s) : Rc sc 2 74 [.ref (b + 33), .int a1, .int a2] (wd b w wl H0 s, kn) (some (.int (D_X4_without_33 s a1 a2).1)) (wd b w wl H0 (D_X4_without_33 s a1 a2).2, kn) := rx_mc (m_X4_without_33 hP hN) rfl rfl (Nat.ble_eq_true_of_le (Nat.le_refl _)) (Nat.ble_eq_true_of_le (Nat.le_refl _))
theorem nn_X4_without_33 {s : Sg} {a1 : Int32} {a2 : Int32} (hN : NN s) : NN (D_X4_without_33 s a1 a2).2 := by
  rw [show (D_X4_without_33 s a1 a2) = (R_X4_without_33_51 ((itr (uc3 (B_X4_without_33_5 a1 a2)) BIG (0, 0, s)).2.2) ((itr (uc3 (B_X4_without_33_5 a1 a2)) BIG (0, 0, s)).2.1)) from rfl]
  exact (nr_X4_without_33_51 (itr_inv3 (B := B_X4_without_33_5 a1 a2) (I := fun z4 z3 zs => NN zs ∧ 0 ≤ z3.toInt) (fun z4 z3 zs hz => nb_X4_without_33_5 hz.1 hz.2) BIG 0 0 s ⟨hN, (by decide : (0 : Int) ≤ (0 : Int32).toInt)⟩).1 (itr_inv3 (B := B_X4_without_33_5 a1 a2) (I := fun z4 z3 zs => NN zs ∧ 0 ≤ z3.toInt) (fun z4 z3 zs hz => nb_X4_without_33_5 hz.1 hz.2) BIG 0 0 s ⟨hN, (by decide : (0 : Int) ≤ (0 : Int32).toInt)⟩).2)
theorem fwb_X4_without_33_5 {a1 : Int32} {a2 : Int32} {x4 : Int32} {x3 : Int32} {s : Sg} {k j : Nat} (h33 : k ≠ 33) : ∃ (f : Bool) (t4 : Int32) (t3 : Int32) (ts : Sg), (B_X4_without_33_5 a1 a2 x4 x3 s) = (f, (t4, t3, ts)) ∧ ts k j = s k j := by
  by_cases c0 : a1 ≤ x4
  · exact ⟨_, _, _, _, (show (B_X4_without_33_5 a1 a2 x4 x3 s) = (false, (x4, x3, s)) from ((if_pos c0).trans rfl)), rfl⟩
  · by_cases c1 : 6 ≤ x4
    · exact ⟨_, _, _, _, (show (B_X4_without_33_5 a1 a2 x4 x3 s) = (false, (x4, x3, s)) from ((if_neg c0).trans ((if_pos c1).trans rfl))), rfl⟩
    · by_cases c2 : (D_X11_hasBit a2 (s 33 x4.toNatClampNeg)) = 0
      · by_cases c3 : 6 ≤ x3
        · exact ⟨_, _, _, _, (show (B_X4_without_33_5 a1 a2 x4 x3 s) = (true, ((x4 + 1), x3, s)) from ((if_neg c0).trans ((if_neg c1).trans ((if_pos c2).trans ((if_pos c3).trans rfl))))), rfl⟩
        · exact ⟨_, _, _, _, (show (B_X4_without_33_5 a1 a2 x4 x3 s) = (true, ((x4 + 1), (x3 + 1), (up s 33 x3.toNatClampNeg (s 33 x4.toNatClampNeg)))) from ((if_neg c0).trans ((if_neg c1).trans ((if_pos c2).trans ((if_neg c3).trans rfl))))), ((up_a h33).trans rfl)⟩
      · exact ⟨_, _, _, _, (show (B_X4_without_33_5 a1 a2 x4 x3 s) = (true, ((x4 + 1), x3, s)) from ((if_neg c0).trans ((if_neg c1).trans ((if_neg c2).trans rfl)))), rfl⟩
theorem fwr_X4_without_33_51 {s : Sg} {a3 : Int32} {k j : Nat} (h33 : k ≠ 33) : (R_X4_without_33_51 s a3).2 k j = s k j := by
  exact pair_of (P := fun zs => zs k j = s k j) (show (R_X4_without_33_51 s a3) = (a3, s) from rfl) rfl
theorem fw_X4_without_33 {s : Sg} {a1 : Int32} {a2 : Int32} {k j : Nat} (h33 : k ≠ 33) : (D_X4_without_33 s a1 a2).2 k j = s k j := by
  rw [show (D_X4_without_33 s a1 a2) = (R_X4_without_33_51 ((itr (uc3 (B_X4_without_33_5 a1 a2)) BIG (0, 0, s)).2.2) ((itr (uc3 (B_X4_without_33_5 a1 a2)) BIG (0, 0, s)).2.1)) from rfl]
  first | done | exact ((fwr_X4_without_33_51 h33).trans ((itr_inv3 (B := B_X4_without_33_5 a1 a2) (I := fun z4 z3 zs => zs k j = s k j) (fun z4 z3 zs hz => exq3 (fwb_X4_without_33_5 h33) hz) BIG 0 0 s rfl).trans rfl))
theorem wo_33 {s : Sg} {a1 a2 : Int32} (hN : NN s) : 0 ≤ (D_X4_without_33 s a1 a2).1.toInt :=
  (itr_inv3 (B := B_X4_without_33_5 a1 a2) (I := fun _ z zs => NN zs ∧ 0 ≤ z.toInt) (fun _ _ _ hz => nb_X4_without_33_5 hz.1 hz.2) BIG 0 0 s ⟨hN, (by decide : (0 : Int) ≤ (0 : Int32).toInt)⟩).2
-- LinkHarbour$LibraryTable.finish
def fr_X4_finish_34 (b w : Nat) (a1 : Int32) (x2 : Int32) : EF := (34, [(0, .ref (b + 23)), (1, .int a1), (2, .int x2)], [])
def fe_X4_finish_34 (b w : Nat) (a1 : Int32) (x2 : Int32) : EF := (123, [], [])
def fr_X4_finish_57 (b w : Nat) (a1 : Int32) (a2 : Int32) (x3 : Int32) : EF := (57, [(0, .ref (b + 23)), (1, .int a1), (2, .int a2), (3, .int x3)], [])
def fe_X4_finish_57 (b w : Nat) (a1 : Int32) (a2 : Int32) (x3 : Int32) : EF := (117, [(0, .ref (b + 23)), (1, .int a1), (2, .int a2)], [])
noncomputable def B_X4_finish_57 (a1 : Int32) (a2 : Int32) (x3 : Int32) (s : Sg) : Bool × (Int32 × Sg) := (if 20 ≤ x3 then (false, (x3, s)) else (if (s 31 ((a2 * 20) + x3).toNatClampNeg) = (-1) then (true, ((x3 + 1), s)) else (if (D_X11_hasBit a1 a2) = 0 then (if (D_X11_hasBit a1 (s 31 ((a2 * 20) + x3).toNatClampNeg)) = 0 then (true, ((x3 + 1), s)) else (true, ((x3 + 1), (up s 31 ((a2 * 20) + x3).toNatClampNeg (-1))))) else (true, ((x3 + 1), (up s 31 ((a2 * 20) + x3).toNatClampNeg (-1)))))))
theorem b_X4_finish_57 (hP : WOK b w H0) {s : Sg} {a1 : Int32} {a2 : Int32} {x3 : Int32} (h2 : rg a2 6) (o : Option Value) (h' : EH) (hN : NN s) (hv : 0 ≤ x3.toInt) (hc : ∀ (t3 : Int32) (ts : Sg), (B_X4_finish_57 a1 a2 x3 s) = (true, (t3, ts)) → x3.toInt < 2147483647 → t3 = x3 + 1 → Rx sc g_X4_finish 2 (fr_X4_finish_57 b w a1 a2 t3) (wd b w wl H0 ts, kn) o h') (he : ∀ (t3 : Int32) (ts : Sg), (B_X4_finish_57 a1 a2 x3 s) = (false, (t3, ts)) → Rx sc g_X4_finish 2 (fe_X4_finish_57 b w a1 a2 t3) (wd b w wl H0 ts, kn) o h') : Rx sc g_X4_finish 2 (fr_X4_finish_57 b w a1 a2 x3) (wd b w wl H0 s, kn) o h' := by
  show Rx sc g_X4_finish 2 (57, [(0, .ref (b + 23)), (1, .int a1), (2, .int a2), (3, .int x3)], []) (wd b w wl H0 s, kn) o h'
  refine rx_k 2 (60, [(0, .ref (b + 23)), (1, .int a1), (2, .int a2), (3, .int x3)], [.int 20, .int x3]) (fun _ _ => rfl) ?_
  by_cases c0 : 20 ≤ x3
  · refine rx_icT rfl (bt c0) ?_
    exact rx_lo am_X4_finish (lo := [(0, .ref (b + 23)), (1, .int a1), (2, .int a2)]) (List.forall_mem_cons.mpr ⟨List.mem_of_getElem? (i := 0) rfl, (List.forall_mem_cons.mpr ⟨List.mem_of_getElem? (i := 1) rfl, (List.forall_mem_cons.mpr ⟨List.mem_of_getElem? (i := 2) rfl, (fun _ h => absurd h List.not_mem_nil)⟩)⟩)⟩) rfl (he _ _ (show (B_X4_finish_57 a1 a2 x3 s) = (false, (x3, s)) from ((if_pos c0).trans rfl)))
  · refine rx_icF rfl (bf c0) rfl ?_
    refine rx_k 1 (64, [(0, .ref (b + 23)), (1, .int a1), (2, .int a2), (3, .int x3)], [.ref (b + 23)]) (fun _ _ => rfl) ?_
    refine rx_getf rfl rfl (wg_23 hP) rfl ?_
    refine rx_k 5 (73, [(0, .ref (b + 23)), (1, .int a1), (2, .int a2), (3, .int x3)], [.int ((a2 * 20) + x3), .ref (b + 31)]) (fun _ _ => rfl) ?_
    refine rx_ild rfl rfl (wg_31 hP) (ar_at (i_mul_add 20 20 rfl h2 (rg_c hv c0 (m := 20) (n := 20) rfl) (by decide) (by decide))) ?_
    refine rx_k 3 (79, [(4, .int (s 31 ((a2 * 20) + x3).toNatClampNeg)), (0, .ref (b + 23)), (1, .int a1), (2, .int a2), (3, .int x3)], [.int (-1), .int (s 31 ((a2 * 20) + x3).toNatClampNeg)]) (fun _ _ => rfl) ?_
    by_cases c1 : (s 31 ((a2 * 20) + x3).toNatClampNeg) = (-1)
    · refine rx_icT rfl (bt c1) ?_
      refine rx_k 2 (57, [(3, .int (x3 + 1)), (4, .int (s 31 ((a2 * 20) + x3).toNatClampNeg)), (0, .ref (b + 23)), (1, .int a1), (2, .int a2)], []) (fun _ _ => rfl) ?_
      refine rx_lo am_X4_finish (lo := [(0, .ref (b + 23)), (1, .int a1), (2, .int a2), (3, .int (x3 + 1))]) (List.forall_mem_cons.mpr ⟨List.mem_of_getElem? (i := 2) rfl, (List.forall_mem_cons.mpr ⟨List.mem_of_getElem? (i := 3) rfl, (List.forall_mem_cons.mpr ⟨List.mem_of_getElem? (i := 4) rfl, (List.forall_mem_cons.mpr ⟨List.mem_of_getElem? (i := 0) rfl, (fun _ h => absurd h List.not_mem_nil)⟩)⟩)⟩)⟩) rfl (hc _ _ (show (B_X4_finish_57 a1 a2 x3 s) = (true, ((x3 + 1), s)) from ((if_neg c0).trans ((if_pos c1).trans rfl))) (lt_nle c0) rfl)
    · refine rx_icF rfl (bf c1) rfl ?_
      refine rx_k 2 (84, [(4, .int (s 31 ((a2 * 20) + x3).toNatClampNeg)), (0, .ref (b + 23)), (1, .int a1), (2, .int a2), (3, .int x3)], [.int a2, .int a1]) (fun _ _ => rfl) ?_
      refine rx_inv rfl rfl (rc_X11_hasBit) rfl rfl rfl rfl rfl rfl ?_
      by_cases c2 : (D_X11_hasBit a1 a2) = 0
      · refine rx_ifF rfl (nf c2) rfl ?_
        refine rx_k 2 (93, [(4, .int (s 31 ((a2 * 20) + x3).toNatClampNeg)), (0, .ref (b + 23)), (1, .int a1), (2, .int a2), (3, .int x3)], [.int (s 31 ((a2 * 20) + x3).toNatClampNeg), .int a1]) (fun _ _ => rfl) ?_
        refine rx_inv rfl rfl (rc_X11_hasBit) rfl rfl rfl rfl rfl rfl ?_
        by_cases c3 : (D_X11_hasBit a1 (s 31 ((a2 * 20) + x3).toNatClampNeg)) = 0
        · refine rx_ifT rfl (bt c3) ?_
          refine rx_k 2 (57, [(3, .int (x3 + 1)), (4, .int (s 31 ((a2 * 20) + x3).toNatClampNeg)), (0, .ref (b + 23)), (1, .int a1), (2, .int a2)], []) (fun _ _ => rfl) ?_
          refine rx_lo am_X4_finish (lo := [(0, .ref (b + 23)), (1, .int a1), (2, .int a2), (3, .int (x3 + 1))]) (List.forall_mem_cons.mpr ⟨List.mem_of_getElem? (i := 2) rfl, (List.forall_mem_cons.mpr ⟨List.mem_of_getElem? (i := 3) rfl, (List.forall_mem_cons.mpr ⟨List.mem_of_getElem? (i := 4) rfl, (List.forall_mem_cons.mpr ⟨List.mem_of_getElem? (i := 0) rfl, (fun _ h => absurd h List.not_mem_nil)⟩)⟩)⟩)⟩) rfl (hc _ _ (show (B_X4_finish_57 a1 a2 x3 s) = (true, ((x3 + 1), s)) from ((if_neg c0).trans ((if_neg c1).trans ((if_pos c2).trans ((if_pos c3).trans rfl))))) (lt_nle c0) rfl)
        · refine rx_ifF rfl (bf c3) rfl ?_
          refine rx_k 1 (100, [(4, .int (s 31 ((a2 * 20) + x3).toNatClampNeg)), (0, .ref (b + 23)), (1, .int a1), (2, .int a2), (3, .int x3)], [.ref (b + 23)]) (fun _ _ => rfl) ?_
          refine rx_getf rfl rfl (wg_23 hP) rfl ?_
          refine rx_k 6 (110, [(4, .int (s 31 ((a2 * 20) + x3).toNatClampNeg)), (0, .ref (b + 23)), (1, .int a1), (2, .int a2), (3, .int x3)], [.int (-1), .int ((a2 * 20) + x3), .ref (b + 31)]) (fun _ _ => rfl) ?_
          refine rx_ist rfl rfl (wg_31 hP) rfl (ar_at (i_mul_add 20 20 rfl h2 (rg_c hv c0 (m := 20) (n := 20) rfl) (by decide) (by decide))) (ws_31 hP (i_mul_add 20 20 rfl h2 (rg_c hv c0 (m := 20) (n := 20) rfl) (by decide) (by decide))) ?_
          refine rx_k 2 (57, [(3, .int (x3 + 1)), (4, .int (s 31 ((a2 * 20) + x3).toNatClampNeg)), (0, .ref (b + 23)), (1, .int a1), (2, .int a2)], []) (fun _ _ => rfl) ?_
          refine rx_lo am_X4_finish (lo := [(0, .ref (b + 23)), (1, .int a1), (2, .int a2), (3, .int (x3 + 1))]) (List.forall_mem_cons.mpr ⟨List.mem_of_getElem? (i := 2) rfl, (List.forall_mem_cons.mpr ⟨List.mem_of_getElem? (i := 3) rfl, (List.forall_mem_cons.mpr ⟨List.mem_of_getElem? (i := 4) rfl, (List.forall_mem_cons.mpr ⟨List.mem_of_getElem? (i := 0) rfl, (fun _ h => absurd h List.not_mem_nil)⟩)⟩)⟩)⟩) rfl (hc _ _ (show (B_X4_finish_57 a1 a2 x3 s) = (true, ((x3 + 1), (up s 31 ((a2 * 20) + x3).toNatClampNeg (-1)))) from ((if_neg c0).trans ((if_neg c1).trans ((if_pos c2).trans ((if_neg c3).trans rfl))))) (lt_nle c0) rfl)
      · refine rx_ifT rfl (nt c2) ?_
        refine rx_k 1 (100, [(4, .int (s 31 ((a2 * 20) + x3).toNatClampNeg)), (0, .ref (b + 23)), (1, .int a1), (2, .int a2), (3, .int x3)], [.ref (b + 23)]) (fun _ _ => rfl) ?_
        refine rx_getf rfl rfl (wg_23 hP) rfl ?_
        refine rx_k 6 (110, [(4, .int (s 31 ((a2 * 20) + x3).toNatClampNeg)), (0, .ref (b + 23)), (1, .int a1), (2, .int a2), (3, .int x3)], [.int (-1), .int ((a2 * 20) + x3), .ref (b + 31)]) (fun _ _ => rfl) ?_
        refine rx_ist rfl rfl (wg_31 hP) rfl (ar_at (i_mul_add 20 20 rfl h2 (rg_c hv c0 (m := 20) (n := 20) rfl) (by decide) (by decide))) (ws_31 hP (i_mul_add 20 20 rfl h2 (rg_c hv c0 (m := 20) (n := 20) rfl) (by decide) (by decide))) ?_
        refine rx_k 2 (57, [(3, .int (x3 + 1)), (4, .int (s 31 ((a2 * 20) + x3).toNatClampNeg)), (0, .ref (b + 23)), (1, .int a1), (2, .int a2)], []) (fun _ _ => rfl) ?_
        refine rx_lo am_X4_finish (lo := [(0, .ref (b + 23)), (1, .int a1), (2, .int a2), (3, .int (x3 + 1))]) (List.forall_mem_cons.mpr ⟨List.mem_of_getElem? (i := 2) rfl, (List.forall_mem_cons.mpr ⟨List.mem_of_getElem? (i := 3) rfl, (List.forall_mem_cons.mpr ⟨List.mem_of_getElem? (i := 4) rfl, (List.forall_mem_cons.mpr ⟨List.mem_of_getElem? (i := 0) rfl, (fun _ h => absurd h List.not_mem_nil)⟩)⟩)⟩)⟩) rfl (hc _ _ (show (B_X4_finish_57 a1 a2 x3 s) = (true, ((x3 + 1), (up s 31 ((a2 * 20) + x3).toNatClampNeg (-1)))) from ((if_neg c0).trans ((if_neg c1).trans ((if_neg c2).trans rfl)))) (lt_nle c0) rfl)
theorem nb_X4_finish_57 {a1 : Int32} {a2 : Int32} {x3 : Int32} {s : Sg} (hN : NN s) : ∃ (f : Bool) (t3 : Int32) (ts : Sg), (B_X4_finish_57 a1 a2 x3 s) = (f, (t3, ts)) ∧ NN ts := by
  by_cases c0 : 20 ≤ x3
  · exact ⟨_, _, _, (show (B_X4_finish_57 a1 a2 x3 s) = (false, (x3, s)) from ((if_pos c0).trans rfl)), hN⟩
  · by_cases c1 : (s 31 ((a2 * 20) + x3).toNatClampNeg) = (-1)
    · exact ⟨_, _, _, (show (B_X4_finish_57 a1 a2 x3 s) = (true, ((x3 + 1), s)) from ((if_neg c0).trans ((if_pos c1).trans rfl))), hN⟩
    · by_cases c2 : (D_X11_hasBit a1 a2) = 0
      · by_cases c3 : (D_X11_hasBit a1 (s 31 ((a2 * 20) + x3).toNatClampNeg)) = 0
        · exact ⟨_, _, _, (show (B_X4_finish_57 a1 a2 x3 s) = (true, ((x3 + 1), s)) from ((if_neg c0).trans ((if_neg c1).trans ((if_pos c2).trans ((if_pos c3).trans rfl))))), hN⟩
        · exact ⟨_, _, _, (show (B_X4_finish_57 a1 a2 x3 s) = (true, ((x3 + 1), (up s 31 ((a2 * 20) + x3).toNatClampNeg (-1)))) from ((if_neg c0).trans ((if_neg c1).trans ((if_pos c2).trans ((if_neg c3).trans rfl))))), (nn_0 rfl hN)⟩
      · exact ⟨_, _, _, (show (B_X4_finish_57 a1 a2 x3 s) = (true, ((x3 + 1), (up s 31 ((a2 * 20) + x3).toNatClampNeg (-1)))) from ((if_neg c0).trans ((if_neg c1).trans ((if_neg c2).trans rfl)))), (nn_0 rfl hN)⟩
noncomputable def R_X4_finish_117 (s : Sg) (a1 : Int32) (a2 : Int32) : Bool × (Int32 × Sg) := (true, ((a2 + 1), s))
theorem r_X4_finish_117 (hP : WOK b w H0) {s : Sg} {a1 : Int32} {a2 : Int32} (h2 : rg a2 6) (o : Option Value) (h' : EH) (hN : NN s) (hv : 0 ≤ (a2).toInt) (hlt : (a2).toInt < 2147483647) (hc : ∀ (t2 : Int32) (ts : Sg), (R_X4_finish_117 s a1 a2) = (true, (t2, ts)) → a2.toInt < 2147483647 → t2 = a2 + 1 → Rx sc g_X4_finish 2 (fr_X4_finish_34 b w a1 t2) (wd b w wl H0 ts, kn) o h') (he : ∀ (t2 : Int32) (ts : Sg), (R_X4_finish_117 s a1 a2) = (false, (t2, ts)) → Rx sc g_X4_finish 2 (fe_X4_finish_34 b w a1 t2) (wd b w wl H0 ts, kn) o h') : Rx sc g_X4_finish 2 ((117, [(0, .ref (b + 23)), (1, .int a1), (2, .int a2)], [])) (wd b w wl H0 s, kn) o h' := by
  show Rx sc g_X4_finish 2 (117, [(0, .ref (b + 23)), (1, .int a1), (2, .int a2)], []) (wd b w wl H0 s, kn) o h'
  refine rx_k 2 (34, [(2, .int (a2 + 1)), (0, .ref (b + 23)), (1, .int a1)], []) (fun _ _ => rfl) ?_
  refine rx_lo am_X4_finish (lo := [(0, .ref (b + 23)), (1, .int a1), (2, .int (a2 + 1))]) (List.forall_mem_cons.mpr ⟨List.mem_of_getElem? (i := 1) rfl, (List.forall_mem_cons.mpr ⟨List.mem_of_getElem? (i := 2) rfl, (List.forall_mem_cons.mpr ⟨List.mem_of_getElem? (i := 0) rfl, (fun _ h => absurd h List.not_mem_nil)⟩)⟩)⟩) rfl (hc _ _ (show (R_X4_finish_117 s a1 a2) = (true, ((a2 + 1), s)) from rfl) hlt rfl)
theorem nr_X4_finish_117 {s : Sg} {a1 : Int32} {a2 : Int32} (hN : NN s) : ∃ (f : Bool) (t2 : Int32) (ts : Sg), (R_X4_finish_117 s a1 a2) = (f, (t2, ts)) ∧ NN ts := by
  exact ⟨_, _, _, (show (R_X4_finish_117 s a1 a2) = (true, ((a2 + 1), s)) from rfl), hN⟩
noncomputable def B_X4_finish_34 (a1 : Int32) (x2 : Int32) (s : Sg) : Bool × (Int32 × Sg) := (if 6 ≤ x2 then (false, (x2, s)) else (if (D_X11_hasBit a1 x2) = 0 then (R_X4_finish_117 ((itr (uc2 (B_X4_finish_57 a1 x2)) BIG (0, s)).2) a1 x2) else (R_X4_finish_117 ((itr (uc2 (B_X4_finish_57 a1 x2)) BIG (0, (up s 30 x2.toNatClampNeg (-1)))).2) a1 x2)))
theorem b_X4_finish_34 (hP : WOK b w H0) {s : Sg} {a1 : Int32} {x2 : Int32} (o : Option Value) (h' : EH) (hN : NN s) (hv : 0 ≤ x2.toInt) (hc : ∀ (t2 : Int32) (ts : Sg), (B_X4_finish_34 a1 x2 s) = (true, (t2, ts)) → x2.toInt < 2147483647 → t2 = x2 + 1 → Rx sc g_X4_finish 2 (fr_X4_finish_34 b w a1 t2) (wd b w wl H0 ts, kn) o h') (he : ∀ (t2 : Int32) (ts : Sg), (B_X4_finish_34 a1 x2 s) = (false, (t2, ts)) → Rx sc g_X4_finish 2 (fe_X4_finish_34 b w a1 t2) (wd b w wl H0 ts, kn) o h') : Rx sc g_X4_finish 2 (fr_X4_finish_34 b w a1 x2) (wd b w wl H0 s, kn) o h' := by
  show Rx sc g_X4_finish 2 (34, [(0, .ref (b + 23)), (1, .int a1), (2, .int x2)], []) (wd b w wl H0 s, kn) o h'
  refine rx_k 2 (37, [(0, .ref (b + 23)), (1, .int a1), (2, .int x2)], [.int 6, .int x2]) (fun _ _ => rfl) ?_
  by_cases c0 : 6 ≤ x2
  · refine rx_icT rfl (bt c0) ?_
    exact rx_lo am_X4_finish (lo := []) (fun _ h => absurd h List.not_mem_nil) rfl (he _ _ (show (B_X4_finish_34 a1 x2 s) = (false, (x2, s)) from ((if_pos c0).trans rfl)))
  · refine rx_icF rfl (bf c0) rfl ?_
    refine rx_k 2 (42, [(0, .ref (b + 23)), (1, .int a1), (2, .int x2)], [.int x2, .int a1]) (fun _ _ => rfl) ?_
    refine rx_inv rfl rfl (rc_X11_hasBit) rfl rfl rfl rfl rfl rfl ?_
    by_cases c1 : (D_X11_hasBit a1 x2) = 0
    · refine rx_ifT rfl (bt c1) ?_
      refine rx_k 2 (57, [(3, .int 0), (0, .ref (b + 23)), (1, .int a1), (2, .int x2)], []) (fun _ _ => rfl) ?_
      refine rx_lo am_X4_finish (lo := [(0, .ref (b + 23)), (1, .int a1), (2, .int x2), (3, .int 0)]) (List.forall_mem_cons.mpr ⟨List.mem_of_getElem? (i := 1) rfl, (List.forall_mem_cons.mpr ⟨List.mem_of_getElem? (i := 2) rfl, (List.forall_mem_cons.mpr ⟨List.mem_of_getElem? (i := 3) rfl, (List.forall_mem_cons.mpr ⟨List.mem_of_getElem? (i := 0) rfl, (fun _ h => absurd h List.not_mem_nil)⟩)⟩)⟩)⟩) rfl ?_
      refine rx_loop2s (B := B_X4_finish_57 a1 x2) (fr := (fr_X4_finish_57 b w a1 x2)) (E := (fe_X4_finish_57 b w a1 x2)) (I := fun z3 zs => NN zs) (fun z3 zs oo hh9 hI9 hv9 hc9 he9 => b_X4_finish_57 hP (rg_c hv c0 (m := 6) (n := 6) rfl) oo hh9 hI9 hv9 hc9 he9) (fun z3 zs hz => nb_X4_finish_57 hz) BIG 0 s _ _ hN (by decide : (0 : Int) ≤ (0 : Int32).toInt) (le_enough (by decide : (0 : Int) ≤ (0 : Int32).toInt)) ?_
      have e9 := (show (B_X4_finish_34 a1 x2 s) = (R_X4_finish_117 ((itr (uc2 (B_X4_finish_57 a1 x2)) BIG (0, s)).2) a1 x2) from ((if_neg c0).trans ((if_pos c1).trans rfl)))
      exact r_X4_finish_117 hP (rg_c hv c0 (m := 6) (n := 6) rfl) o h' (itr_inv2 (B := B_X4_finish_57 a1 x2) (I := fun z3 zs => NN zs) (fun z3 zs hz => nb_X4_finish_57 hz) BIG 0 s hN) (rg_c hv c0 (m := 6) (n := 6) rfl).1 (lt_nle c0) (fun t2 ts e8 l8 v8 => hc t2 ts (e9.trans e8) l8 v8) (fun t2 ts e8 => he t2 ts (e9.trans e8))
    · refine rx_ifF rfl (bf c1) rfl ?_
      refine rx_k 1 (49, [(0, .ref (b + 23)), (1, .int a1), (2, .int x2)], [.ref (b + 23)]) (fun _ _ => rfl) ?_
      refine rx_getf rfl rfl (wg_23 hP) rfl ?_
      refine rx_k 2 (54, [(0, .ref (b + 23)), (1, .int a1), (2, .int x2)], [.int (-1), .int x2, .ref (b + 30)]) (fun _ _ => rfl) ?_
      refine rx_ist rfl rfl (wg_30 hP) rfl (ar_at (rg_c hv c0 (m := 6) (n := 6) rfl)) (ws_30 hP (rg_c hv c0 (m := 6) (n := 6) rfl)) ?_
      refine rx_k 2 (57, [(3, .int 0), (0, .ref (b + 23)), (1, .int a1), (2, .int x2)], []) (fun _ _ => rfl) ?_
      refine rx_lo am_X4_finish (lo := [(0, .ref (b + 23)), (1, .int a1), (2, .int x2), (3, .int 0)]) (List.forall_mem_cons.mpr ⟨List.mem_of_getElem? (i := 1) rfl, (List.forall_mem_cons.mpr ⟨List.mem_of_getElem? (i := 2) rfl, (List.forall_mem_cons.mpr ⟨List.mem_of_getElem? (i := 3) rfl, (List.forall_mem_cons.mpr ⟨List.mem_of_getElem? (i := 0) rfl, (fun _ h => absurd h List.not_mem_nil)⟩)⟩)⟩)⟩) rfl ?_
      refine rx_loop2s (B := B_X4_finish_57 a1 x2) (fr := (fr_X4_finish_57 b w a1 x2)) (E := (fe_X4_finish_57 b w a1 x2)) (I := fun z3 zs => NN zs) (fun z3 zs oo hh9 hI9 hv9 hc9 he9 => b_X4_finish_57 hP (rg_c hv c0 (m := 6) (n := 6) rfl) oo hh9 hI9 hv9 hc9 he9) (fun z3 zs hz => nb_X4_finish_57 hz) BIG 0 (up s 30 x2.toNatClampNeg (-1)) _ _ (nn_0 rfl hN) (by decide : (0 : Int) ≤ (0 : Int32).toInt) (le_enough (by decide : (0 : Int) ≤ (0 : Int32).toInt)) ?_
      have e9 := (show (B_X4_finish_34 a1 x2 s) = (R_X4_finish_117 ((itr (uc2 (B_X4_finish_57 a1 x2)) BIG (0, (up s 30 x2.toNatClampNeg (-1)))).2) a1 x2) from ((if_neg c0).trans ((if_neg c1).trans rfl)))
      exact r_X4_finish_117 hP (rg_c hv c0 (m := 6) (n := 6) rfl) o h' (itr_inv2 (B := B_X4_finish_57 a1 x2) (I := fun z3 zs => NN zs) (fun z3 zs hz => nb_X4_finish_57 hz) BIG 0 (up s 30 x2.toNatClampNeg (-1)) (nn_0 rfl hN)) (rg_c hv c0 (m := 6) (n := 6) rfl).1 (lt_nle c0) (fun t2 ts e8 l8 v8 => hc t2 ts (e9.trans e8) l8 v8) (fun t2 ts e8 => he t2 ts (e9.trans e8))
theorem nb_X4_finish_34 {a1 : Int32} {x2 : Int32} {s : Sg} (hN : NN s) : ∃ (f : Bool) (t2 : Int32) (ts : Sg), (B_X4_finish_34 a1 x2 s) = (f, (t2, ts)) ∧ NN ts := by
  by_cases c0 : 6 ≤ x2
  · exact ⟨_, _, _, (show (B_X4_finish_34 a1 x2 s) = (false, (x2, s)) from ((if_pos c0).trans rfl)), hN⟩
  · by_cases c1 : (D_X11_hasBit a1 x2) = 0
    · rw [show (B_X4_finish_34 a1 x2 s) = (R_X4_finish_117 ((itr (uc2 (B_X4_finish_57 a1 x2)) BIG (0, s)).2) a1 x2) from ((if_neg c0).trans ((if_pos c1).trans rfl))]
      exact (nr_X4_finish_117 (itr_inv2 (B := B_X4_finish_57 a1 x2) (I := fun z3 zs => NN zs) (fun z3 zs hz => nb_X4_finish_57 hz) BIG 0 s hN))
    · rw [show (B_X4_finish_34 a1 x2 s) = (R_X4_finish_117 ((itr (uc2 (B_X4_finish_57 a1 x2)) BIG (0, (up s 30 x2.toNatClampNeg (-1)))).2) a1 x2) from ((if_neg c0).trans ((if_neg c1).trans rfl))]
      exact (nr_X4_finish_117 (itr_inv2 (B := B_X4_finish_57 a1 x2) (I := fun z3 zs => NN zs) (fun z3 zs hz => nb_X4_finish_57 hz) BIG 0 (up s 30 x2.toNatClampNeg (-1)) (nn_0 rfl hN)))
noncomputable def R_X4_finish_123 (s : Sg) : Sg := s
theorem r_X4_finish_123 (hP : WOK b w H0) {s : Sg} (hN : NN s) : Rx sc g_X4_finish 2 ((123, [], [])) (wd b w wl H0 s, kn) none (wd b w wl H0 (R_X4_finish_123 s), kn) := by
  show Rx sc g_X4_finish 2 (123, [], []) (wd b w wl H0 s, kn) none (wd b w wl H0 (R_X4_finish_123 s), kn)
  rw [(show (R_X4_finish_123 s) = s from rfl)]
  exact rx_rv rfl
theorem nr_X4_finish_123 {s : Sg} (hN : NN s) : NN ((R_X4_finish_123 s)) := by
  rw [show (R_X4_finish_123 s) = s from rfl]
  exact hN
noncomputable def D_X4_finish (s : Sg) (a1 : Int32) : Sg := (R_X4_finish_123 ((itr (uc2 (B_X4_finish_34 a1)) BIG (0, (up (D_X4_without_33 (up (D_X4_without_32 s (s 23 14) a1).2 23 14 (D_X4_without_32 s (s 23 14) a1).1) ((D_X4_without_32 s (s 23 14) a1).2 23 15) a1).2 23 15 (D_X4_without_33 (up (D_X4_without_32 s (s 23 14) a1).2 23 14 (D_X4_without_32 s (s 23 14) a1).1) ((D_X4_without_32 s (s 23 14) a1).2 23 15) a1).1))).2))
theorem m_X4_finish (hP : WOK b w H0) {s : Sg} {a1 : Int32} (hN : NN s) : Rx sc g_X4_finish 2 ((0, [(0, .ref (b + 23)), (1, .int a1)], [])) (wd b w wl H0 s, kn) none (wd b w wl H0 (D_X4_finish s a1), kn) := by
  show Rx sc g_X4_finish 2 (0, [(0, .ref (b + 23)), (1, .int a1)], []) (wd b w wl H0 s, kn) none (wd b w wl H0 (D_X4_finish s a1), kn)
  refine rx_k 2 (2, [(0, .ref (b + 23)), (1, .int a1)], [.ref (b + 23), .ref (b + 23)]) (fun _ _ => rfl) ?_
  refine rx_getf rfl rfl (wg_23 hP) rfl ?_
  refine rx_k 1 (6, [(0, .ref (b + 23)), (1, .int a1)], [.ref (b + 23), .ref (b + 32), .ref (b + 23)]) (fun _ _ => rfl) ?_
  refine rx_getf rfl rfl (wg_23 hP) rfl ?_
  refine rx_k 1 (10, [(0, .ref (b + 23)), (1, .int a1)], [.int a1, .int (s 23 14), .ref (b + 32), .ref (b + 23)]) (fun _ _ => rfl) ?_
  refine rx_inv rfl rfl (rc_X4_without_32 hP hN) rfl rfl rfl rfl rfl rfl ?_
  refine rx_putf rfl rfl (wg_23 hP) rfl (ws_23_14 hP) ?_
  refine rx_k 2 (18, [(0, .ref (b + 23)), (1, .int a1)], [.ref (b + 23), .ref (b + 23)]) (fun _ _ => rfl) ?_
  refine rx_getf rfl rfl (wg_23 hP) rfl ?_
  refine rx_k 1 (22, [(0, .ref (b + 23)), (1, .int a1)], [.ref (b + 23), .ref (b + 33), .ref (b + 23)]) (fun _ _ => rfl) ?_
  refine rx_getf (v := .int ((D_X4_without_32 s (s 23 14) a1).2 23 15)) rfl rfl (wg_23 hP) (congrArg (fun z => some (Value.int z)) (rd_nj (by decide))) ?_
  refine rx_k 1 (26, [(0, .ref (b + 23)), (1, .int a1)], [.int a1, .int ((D_X4_without_32 s (s 23 14) a1).2 23 15), .ref (b + 33), .ref (b + 23)]) (fun _ _ => rfl) ?_
  refine rx_inv rfl rfl (rc_X4_without_33 hP (nn_c (wo_32 hN) (nn_X4_without_32 hN))) rfl rfl rfl rfl rfl rfl ?_
  refine rx_putf rfl rfl (wg_23 hP) rfl (ws_23_15 hP) ?_
  refine rx_k 2 (34, [(2, .int 0), (0, .ref (b + 23)), (1, .int a1)], []) (fun _ _ => rfl) ?_
  refine rx_lo am_X4_finish (lo := [(0, .ref (b + 23)), (1, .int a1), (2, .int 0)]) (List.forall_mem_cons.mpr ⟨List.mem_of_getElem? (i := 1) rfl, (List.forall_mem_cons.mpr ⟨List.mem_of_getElem? (i := 2) rfl, (List.forall_mem_cons.mpr ⟨List.mem_of_getElem? (i := 0) rfl, (fun _ h => absurd h List.not_mem_nil)⟩)⟩)⟩) rfl ?_
  refine rx_loop2s (B := B_X4_finish_34 a1) (fr := (fr_X4_finish_34 b w a1)) (E := (fe_X4_finish_34 b w a1)) (I := fun z2 zs => NN zs) (fun z2 zs oo hh9 hI9 hv9 hc9 he9 => b_X4_finish_34 hP oo hh9 hI9 hv9 hc9 he9) (fun z2 zs hz => nb_X4_finish_34 hz) BIG 0 (up (D_X4_without_33 (up (D_X4_without_32 s (s 23 14) a1).2 23 14 (D_X4_without_32 s (s 23 14) a1).1) ((D_X4_without_32 s (s 23 14) a1).2 23 15) a1).2 23 15 (D_X4_without_33 (up (D_X4_without_32 s (s 23 14) a1).2 23 14 (D_X4_without_32 s (s 23 14) a1).1) ((D_X4_without_32 s (s 23 14) a1).2 23 15) a1).1) _ _ (nn_c (wo_33 (nn_c (wo_32 hN) (nn_X4_without_32 hN))) (nn_X4_without_33 (nn_c (wo_32 hN) (nn_X4_without_32 hN)))) (by decide : (0 : Int) ≤ (0 : Int32).toInt) (le_enough (by decide : (0 : Int) ≤ (0 : Int32).toInt)) ?_
  rw [(show (D_X4_finish s a1) = (R_X4_finish_123 ((itr (uc2 (B_X4_finish_34 a1)) BIG (0, (up (D_X4_without_33 (up (D_X4_without_32 s (s 23 14) a1).2 23 14 (D_X4_without_32 s (s 23 14) a1).1) ((D_X4_without_32 s (s 23 14) a1).2 23 15) a1).2 23 15 (D_X4_without_33 (up (D_X4_without_32 s (s 23 14) a1).2 23 14 (D_X4_without_32 s (s 23 14) a1).1) ((D_X4_without_32 s (s 23 14) a1).2 23 15) a1).1))).2)) from rfl)]
  exact r_X4_finish_123 hP (itr_inv2 (B := B_X4_finish_34 a1) (I := fun z2 zs => NN zs) (fun z2 zs hz => nb_X4_finish_34 hz) BIG 0 (up (D_X4_without_33 (up (D_X4_without_32 s (s 23 14) a1).2 23 14 (D_X4_without_32 s (s 23 14) a1).1) ((D_X4_without_32 s (s 23 14) a1).2 23 15) a1).2 23 15 (D_X4_without_33 (up (D_X4_without_32 s (s 23 14) a1).2 23 14 (D_X4_without_32 s (s 23 14) a1).1) ((D_X4_without_32 s (s 23 14) a1).2 23 15) a1).1) (nn_c (wo_33 (nn_c (wo_32 hN) (nn_X4_without_32 hN))) (nn_X4_without_33 (nn_c (wo_32 hN) (nn_X4_without_32 hN)))))
theorem rc_X4_finish (hP : WOK b w H0) {s : Sg} {a1 : Int32} (hN : NN s) : Rc sc 3 73 [.ref (b + 23), .int a1] (wd b w wl H0 s, kn) none (wd b w wl H0 (D_X4_finish s a1), kn) := rx_mc (m_X4_finish hP hN) rfl rfl (Nat.ble_eq_true_of_le (Nat.le_refl _)) (Nat.ble_eq_true_of_le (Nat.le_refl _))
theorem nn_X4_finish {s : Sg} {a1 : Int32} (hN : NN s) : NN (D_X4_finish s a1) := by
  rw [show (D_X4_finish s a1) = (R_X4_finish_123 ((itr (uc2 (B_X4_finish_34 a1)) BIG (0, (up (D_X4_without_33 (up (D_X4_without_32 s (s 23 14) a1).2 23 14 (D_X4_without_32 s (s 23 14) a1).1) ((D_X4_without_32 s (s 23 14) a1).2 23 15) a1).2 23 15 (D_X4_without_33 (up (D_X4_without_32 s (s 23 14) a1).2 23 14 (D_X4_without_32 s (s 23 14) a1).1) ((D_X4_without_32 s (s 23 14) a1).2 23 15) a1).1))).2)) from rfl]
  exact (nr_X4_finish_123 (itr_inv2 (B := B_X4_finish_34 a1) (I := fun z2 zs => NN zs) (fun z2 zs hz => nb_X4_finish_34 hz) BIG 0 (up (D_X4_without_33 (up (D_X4_without_32 s (s 23 14) a1).2 23 14 (D_X4_without_32 s (s 23 14) a1).1) ((D_X4_without_32 s (s 23 14) a1).2 23 15) a1).2 23 15 (D_X4_without_33 (up (D_X4_without_32 s (s 23 14) a1).2 23 14 (D_X4_without_32 s (s 23 14) a1).1) ((D_X4_without_32 s (s 23 14) a1).2 23 15) a1).1) (nn_c (wo_33 (nn_c (wo_32 hN) (nn_X4_without_32 hN))) (nn_X4_without_33 (nn_c (wo_32 hN) (nn_X4_without_32 hN))))))
theorem fwb_X4_finish_57 {a1 : Int32} {a2 : Int32} {x3 : Int32} {s : Sg} {k j : Nat} (h23f14 : k ≠ 23 ∨ j ≠ 14) (h23f15 : k ≠ 23 ∨ j ≠ 15) (h30 : k ≠ 30) (h31 : k ≠ 31) (h32 : k ≠ 32) (h33 : k ≠ 33) : ∃ (f : Bool) (t3 : Int32) (ts : Sg), (B_X4_finish_57 a1 a2 x3 s) = (f, (t3, ts)) ∧ ts k j = s k j := by
  by_cases c0 : 20 ≤ x3
  · exact ⟨_, _, _, (show (B_X4_finish_57 a1 a2 x3 s) = (false, (x3, s)) from ((if_pos c0).trans rfl)), rfl⟩
  · by_cases c1 : (s 31 ((a2 * 20) + x3).toNatClampNeg) = (-1)
    · exact ⟨_, _, _, (show (B_X4_finish_57 a1 a2 x3 s) = (true, ((x3 + 1), s)) from ((if_neg c0).trans ((if_pos c1).trans rfl))), rfl⟩
    · by_cases c2 : (D_X11_hasBit a1 a2) = 0
      · by_cases c3 : (D_X11_hasBit a1 (s 31 ((a2 * 20) + x3).toNatClampNeg)) = 0
        · exact ⟨_, _, _, (show (B_X4_finish_57 a1 a2 x3 s) = (true, ((x3 + 1), s)) from ((if_neg c0).trans ((if_neg c1).trans ((if_pos c2).trans ((if_pos c3).trans rfl))))), rfl⟩
        · exact ⟨_, _, _, (show (B_X4_finish_57 a1 a2 x3 s) = (true, ((x3 + 1), (up s 31 ((a2 * 20) + x3).toNatClampNeg (-1)))) from ((if_neg c0).trans ((if_neg c1).trans ((if_pos c2).trans ((if_neg c3).trans rfl))))), ((up_a h31).trans rfl)⟩
      · exact ⟨_, _, _, (show (B_X4_finish_57 a1 a2 x3 s) = (true, ((x3 + 1), (up s 31 ((a2 * 20) + x3).toNatClampNeg (-1)))) from ((if_neg c0).trans ((if_neg c1).trans ((if_neg c2).trans rfl)))), ((up_a h31).trans rfl)⟩
theorem fwr_X4_finish_117 {s : Sg} {a1 : Int32} {a2 : Int32} {k j : Nat} (h23f14 : k ≠ 23 ∨ j ≠ 14) (h23f15 : k ≠ 23 ∨ j ≠ 15) (h30 : k ≠ 30) (h31 : k ≠ 31) (h32 : k ≠ 32) (h33 : k ≠ 33) : ∃ (f : Bool) (t2 : Int32) (ts : Sg), (R_X4_finish_117 s a1 a2) = (f, (t2, ts)) ∧ ts k j = s k j := by
  exact ⟨_, _, _, (show (R_X4_finish_117 s a1 a2) = (true, ((a2 + 1), s)) from rfl), rfl⟩
theorem fwb_X4_finish_34 {a1 : Int32} {x2 : Int32} {s : Sg} {k j : Nat} (h23f14 : k ≠ 23 ∨ j ≠ 14) (h23f15 : k ≠ 23 ∨ j ≠ 15) (h30 : k ≠ 30) (h31 : k ≠ 31) (h32 : k ≠ 32) (h33 : k ≠ 33) : ∃ (f : Bool) (t2 : Int32) (ts : Sg), (B_X4_finish_34 a1 x2 s) = (f, (t2, ts)) ∧ ts k j = s k j := by
  by_cases c0 : 6 ≤ x2
  · exact ⟨_, _, _, (show (B_X4_finish_34 a1 x2 s) = (false, (x2, s)) from ((if_pos c0).trans rfl)), rfl⟩
  · by_cases c1 : (D_X11_hasBit a1 x2) = 0
    · rw [show (B_X4_finish_34 a1 x2 s) = (R_X4_finish_117 ((itr (uc2 (B_X4_finish_57 a1 x2)) BIG (0, s)).2) a1 x2) from ((if_neg c0).trans ((if_pos c1).trans rfl))]
      exact (exq2t (fwr_X4_finish_117 h23f14 h23f15 h30 h31 h32 h33) ((itr_inv2 (B := B_X4_finish_57 a1 x2) (I := fun z3 zs => zs k j = s k j) (fun z3 zs hz => exq2 (fwb_X4_finish_57 h23f14 h23f15 h30 h31 h32 h33) hz) BIG 0 s rfl).trans rfl))
    · rw [show (B_X4_finish_34 a1 x2 s) = (R_X4_finish_117 ((itr (uc2 (B_X4_finish_57 a1 x2)) BIG (0, (up s 30 x2.toNatClampNeg (-1)))).2) a1 x2) from ((if_neg c0).trans ((if_neg c1).trans rfl))]
      exact (exq2t (fwr_X4_finish_117 h23f14 h23f15 h30 h31 h32 h33) ((itr_inv2 (B := B_X4_finish_57 a1 x2) (I := fun z3 zs => zs k j = (up s 30 x2.toNatClampNeg (-1)) k j) (fun z3 zs hz => exq2 (fwb_X4_finish_57 h23f14 h23f15 h30 h31 h32 h33) hz) BIG 0 (up s 30 x2.toNatClampNeg (-1)) rfl).trans ((up_a h30).trans rfl)))
theorem fwr_X4_finish_123 {s : Sg} {k j : Nat} (h23f14 : k ≠ 23 ∨ j ≠ 14) (h23f15 : k ≠ 23 ∨ j ≠ 15) (h30 : k ≠ 30) (h31 : k ≠ 31) (h32 : k ≠ 32) (h33 : k ≠ 33) : (R_X4_finish_123 s) k j = s k j := by
  rw [show (R_X4_finish_123 s) = s from rfl]
  first | done | exact rfl
theorem fw_X4_finish {s : Sg} {a1 : Int32} {k j : Nat} (h23f14 : k ≠ 23 ∨ j ≠ 14) (h23f15 : k ≠ 23 ∨ j ≠ 15) (h30 : k ≠ 30) (h31 : k ≠ 31) (h32 : k ≠ 32) (h33 : k ≠ 33) : (D_X4_finish s a1) k j = s k j := by
  rw [show (D_X4_finish s a1) = (R_X4_finish_123 ((itr (uc2 (B_X4_finish_34 a1)) BIG (0, (up (D_X4_without_33 (up (D_X4_without_32 s (s 23 14) a1).2 23 14 (D_X4_without_32 s (s 23 14) a1).1) ((D_X4_without_32 s (s 23 14) a1).2 23 15) a1).2 23 15 (D_X4_without_33 (up (D_X4_without_32 s (s 23 14) a1).2 23 14 (D_X4_without_32 s (s 23 14) a1).1) ((D_X4_without_32 s (s 23 14) a1).2 23 15) a1).1))).2)) from rfl]
  first | done | exact ((fwr_X4_finish_123 h23f14 h23f15 h30 h31 h32 h33).trans ((itr_inv2 (B := B_X4_finish_34 a1) (I := fun z2 zs => zs k j = (up (D_X4_without_33 (up (D_X4_without_32 s (s 23 14) a1).2 23 14 (D_X4_without_32 s (s 23 14) a1).1) ((D_X4_without_32 s (s 23 14) a1).2 23 15) a1).2 23 15 (D_X4_without_33 (up (D_X4_without_32 s (s 23 14) a1).2 23 14 (D_X4_without_32 s (s 23 14) a1).1) ((D_X4_without_32 s (s 23 14) a1).2 23 15) a1).1) k j) (fun z2 zs hz => exq2 (fwb_X4_finish_34 h23f14 h23f15 h30 h31 h32 h33) hz) BIG 0 (up (D_X4_without_33 (up (D_X4_without_32 s (s 23 14) a1).2 23 14 (D_X4_without_32 s (s 23 14) a1).1) ((D_X4_without_32 s (s 23 14) a1).2 23 15) a1).2 23 15 (D_X4_without_33 (up (D_X4_without_32 s (s 23 14) a1).2 23 14 (D_X4_without_32 s (s 23 14) a1).1) ((D_X4_without_32 s (s 23 14) a1).2 23 15) a1).1) rfl).trans ((up_f h23f15).trans ((fw_X4_without_33 h33).trans ((up_f h23f14).trans ((fw_X4_without_32 h32).trans rfl))))))
-- LinkHarbour$LibraryTable.closeOne
noncomputable def D_X4_closeOne (s : Sg) (a1 : Int32) : Int32 × Sg := (if (D_X4_has s a1) = 0 then (0, s) else ((D_J6_bitCount_0f7a4 (D_X4_leavingBy s a1).1), (D_X4_finish (up (D_X4_leavingBy s a1).2 29 a1.toNatClampNeg (((D_X4_leavingBy s a1).2 29 a1.toNatClampNeg) - 1)) (D_X4_leavingBy s a1).1)))
theorem m_X4_closeOne (hP : WOK b w H0) {s : Sg} {a1 : Int32} (hN : NN s) : Rx sc g_X4_closeOne 5 ((0, [(0, .ref (b + 23)), (1, .int a1)], [])) (wd b w wl H0 s, kn) (some (.int (D_X4_closeOne s a1).1)) (wd b w wl H0 (D_X4_closeOne s a1).2, kn) := by
  show Rx sc g_X4_closeOne 5 (0, [(0, .ref (b + 23)), (1, .int a1)], []) (wd b w wl H0 s, kn) (some (.int (D_X4_closeOne s a1).1)) (wd b w wl H0 (D_X4_closeOne s a1).2, kn)
  refine rx_k 2 (2, [(0, .ref (b + 23)), (1, .int a1)], [.int a1, .ref (b + 23)]) (fun _ _ => rfl) ?_
  refine rx_inv rfl rfl (rc_X4_has hP) rfl rfl rfl (q_recv (wg_23 hP)) rfl rfl ?_
  by_cases c0 : (D_X4_has s a1) = 0
  · refine rx_ifF rfl (nf c0) rfl ?_
    refine rx_k 1 (9, [(0, .ref (b + 23)), (1, .int a1)], [.int 0]) (fun _ _ => rfl) ?_
    rw [(show (D_X4_closeOne s a1) = (0, s) from ((if_pos c0).trans rfl))]
    exact rx_ri rfl
  · refine rx_ifT rfl (nt c0) ?_
    refine rx_k 2 (12, [(0, .ref (b + 23)), (1, .int a1)], [.int a1, .ref (b + 23)]) (fun _ _ => rfl) ?_
    refine rx_inv rfl rfl (rc_X4_leavingBy hP hN) rfl rfl rfl (q_recv (wg_23 hP)) rfl rfl ?_
    refine rx_k 2 (17, [(2, .int (D_X4_leavingBy s a1).1), (0, .ref (b + 23)), (1, .int a1)], [.ref (b + 23)]) (fun _ _ => rfl) ?_
    refine rx_getf rfl rfl (wg_23 hP) rfl ?_
    refine rx_k 2 (22, [(2, .int (D_X4_leavingBy s a1).1), (0, .ref (b + 23)), (1, .int a1)], [.int a1, .ref (b + 29), .int a1, .ref (b + 29)]) (fun _ _ => rfl) ?_
    refine rx_ild rfl rfl (wg_29 hP) (ar_at (rg_X4_has c0)) ?_
    refine rx_k 2 (25, [(2, .int (D_X4_leavingBy s a1).1), (0, .ref (b + 23)), (1, .int a1)], [.int (((D_X4_leavingBy s a1).2 29 a1.toNatClampNeg) - 1), .int a1, .ref (b + 29)]) (fun _ _ => rfl) ?_
    refine rx_ist rfl rfl (wg_29 hP) rfl (ar_at (rg_X4_has c0)) (ws_29 hP (rg_X4_has c0)) ?_
    refine rx_k 2 (28, [(2, .int (D_X4_leavingBy s a1).1), (0, .ref (b + 23)), (1, .int a1)], [.int (D_X4_leavingBy s a1).1, .ref (b + 23)]) (fun _ _ => rfl) ?_
    refine rx_inv rfl rfl (rc_X4_finish hP (nn_0 rfl (nn_X4_leavingBy hN))) rfl rfl rfl (q_recv (wg_23 hP)) rfl rfl ?_
    refine rx_k 1 (32, [(2, .int (D_X4_leavingBy s a1).1), (0, .ref (b + 23)), (1, .int a1)], [.int (D_X4_leavingBy s a1).1]) (fun _ _ => rfl) ?_
    refine rx_inv rfl rfl (rc_J6_bitCount_0f7a4) rfl rfl rfl rfl rfl rfl ?_
    rw [(show (D_X4_closeOne s a1) = ((D_J6_bitCount_0f7a4 (D_X4_leavingBy s a1).1), (D_X4_finish (up (D_X4_leavingBy s a1).2 29 a1.toNatClampNeg (((D_X4_leavingBy s a1).2 29 a1.toNatClampNeg) - 1)) (D_X4_leavingBy s a1).1)) from ((if_neg c0).trans rfl))]
    exact rx_ri rfl
theorem rc_X4_closeOne (hP : WOK b w H0) {s : Sg} {a1 : Int32} (hN : NN s) : Rc sc 6 71 [.ref (b + 23), .int a1] (wd b w wl H0 s, kn) (some (.int (D_X4_closeOne s a1).1)) (wd b w wl H0 (D_X4_closeOne s a1).2, kn) := rx_mc (m_X4_closeOne hP hN) rfl rfl (Nat.ble_eq_true_of_le (Nat.le_refl _)) (Nat.ble_eq_true_of_le (Nat.le_refl _))
theorem nn_X4_closeOne {s : Sg} {a1 : Int32} (hN : NN s) : NN (D_X4_closeOne s a1).2 := by
  by_cases c0 : (D_X4_has s a1) = 0
  · exact pair_of (P := fun zs => NN zs) (show (D_X4_closeOne s a1) = (0, s) from ((if_pos c0).trans rfl)) hN
  · exact pair_of (P := fun zs => NN zs) (show (D_X4_closeOne s a1) = ((D_J6_bitCount_0f7a4 (D_X4_leavingBy s a1).1), (D_X4_finish (up (D_X4_leavingBy s a1).2 29 a1.toNatClampNeg (((D_X4_leavingBy s a1).2 29 a1.toNatClampNeg) - 1)) (D_X4_leavingBy s a1).1)) from ((if_neg c0).trans rfl)) (nn_X4_finish (nn_0 rfl (nn_X4_leavingBy hN)))
theorem fw_X4_closeOne {s : Sg} {a1 : Int32} {k j : Nat} (h23f12 : k ≠ 23 ∨ j ≠ 12) (h23f14 : k ≠ 23 ∨ j ≠ 14) (h23f15 : k ≠ 23 ∨ j ≠ 15) (h29 : k ≠ 29) (h30 : k ≠ 30) (h31 : k ≠ 31) (h32 : k ≠ 32) (h33 : k ≠ 33) (h34 : k ≠ 34) : (D_X4_closeOne s a1).2 k j = s k j := by
  by_cases c0 : (D_X4_has s a1) = 0
  · exact pair_of (P := fun zs => zs k j = s k j) (show (D_X4_closeOne s a1) = (0, s) from ((if_pos c0).trans rfl)) rfl
  · exact pair_of (P := fun zs => zs k j = s k j) (show (D_X4_closeOne s a1) = ((D_J6_bitCount_0f7a4 (D_X4_leavingBy s a1).1), (D_X4_finish (up (D_X4_leavingBy s a1).2 29 a1.toNatClampNeg (((D_X4_leavingBy s a1).2 29 a1.toNatClampNeg) - 1)) (D_X4_leavingBy s a1).1)) from ((if_neg c0).trans rfl)) ((fw_X4_finish h23f14 h23f15 h30 h31 h32 h33).trans ((up_a h29).trans ((fw_X4_leavingBy h23f12 h34).trans rfl)))
-- LinkHarbour$LibraryTable.firstExporter
def fr_X4_firstExporter_2 (b w : Nat) (a1 : Int32) (a2 : Int32) (x3 : Int32) : EF := (2, [(0, .ref (b + 23)), (1, .int a1), (2, .int a2), (3, .int x3)], [])
def fe_X4_firstExporter_2 (b w : Nat) (a1 : Int32) (a2 : Int32) (x3 : Int32) : EF := (43, [(0, .ref (b + 23)), (1, .int a1), (2, .int a2)], [])
noncomputable def B_X4_firstExporter_2 (s : Sg) (a1 : Int32) (a2 : Int32) (x3 : Int32) : Option (Option Int32) × (Int32) := (if (s 23 14) ≤ x3 then ((some none), x3) else (if 6 ≤ x3 then ((some none), x3) else (if (D_X4_isExport s (s 32 x3.toNatClampNeg) a2) = 0 then (none, (x3 + 1)) else (some (some (s 32 x3.toNatClampNeg)), x3))))
theorem b_X4_firstExporter_2 (hP : WOK b w H0) {s : Sg} {a1 : Int32} {a2 : Int32} {x3 : Int32} (o : Option Value) (h' : EH) (hN : NN s) (hv : 0 ≤ x3.toInt) (hc : ∀ (t3 : Int32), (B_X4_firstExporter_2 s a1 a2 x3) = (none, t3) → x3.toInt < 2147483647 → t3 = x3 + 1 → Rx sc g_X4_firstExporter 3 (fr_X4_firstExporter_2 b w a1 a2 t3) (wd b w wl H0 s, kn) o h') (he : ∀ (t3 : Int32), (B_X4_firstExporter_2 s a1 a2 x3) = (some none, t3) → Rx sc g_X4_firstExporter 3 (fe_X4_firstExporter_2 b w a1 a2 t3) (wd b w wl H0 s, kn) o h') (hr : ∀ (v : Int32) (t3 : Int32), (B_X4_firstExporter_2 s a1 a2 x3) = (some (some v), t3) → o = some (.int v) ∧ h' = (wd b w wl H0 s, kn)) : Rx sc g_X4_firstExporter 3 (fr_X4_firstExporter_2 b w a1 a2 x3) (wd b w wl H0 s, kn) o h' := by
  show Rx sc g_X4_firstExporter 3 (2, [(0, .ref (b + 23)), (1, .int a1), (2, .int a2), (3, .int x3)], []) (wd b w wl H0 s, kn) o h'
  refine rx_k 2 (4, [(0, .ref (b + 23)), (1, .int a1), (2, .int a2), (3, .int x3)], [.ref (b + 23), .int x3]) (fun _ _ => rfl) ?_
  refine rx_getf rfl rfl (wg_23 hP) rfl ?_
  by_cases c0 : (s 23 14) ≤ x3
  · refine rx_icT rfl (bt c0) ?_
    exact rx_lo am_X4_firstExporter (lo := [(0, .ref (b + 23)), (1, .int a1), (2, .int a2)]) (List.forall_mem_cons.mpr ⟨List.mem_of_getElem? (i := 0) rfl, (List.forall_mem_cons.mpr ⟨List.mem_of_getElem? (i := 1) rfl, (List.forall_mem_cons.mpr ⟨List.mem_of_getElem? (i := 2) rfl, (fun _ h => absurd h List.not_mem_nil)⟩)⟩)⟩) rfl (he _ (show (B_X4_firstExporter_2 s a1 a2 x3) = ((some none), x3) from ((if_pos c0).trans rfl)))
  · refine rx_icF rfl (bf c0) rfl ?_
    refine rx_k 2 (13, [(0, .ref (b + 23)), (1, .int a1), (2, .int a2), (3, .int x3)], [.int 6, .int x3]) (fun _ _ => rfl) ?_
    by_cases c1 : 6 ≤ x3
    · refine rx_icT rfl (bt c1) ?_
      exact rx_lo am_X4_firstExporter (lo := [(0, .ref (b + 23)), (1, .int a1), (2, .int a2)]) (List.forall_mem_cons.mpr ⟨List.mem_of_getElem? (i := 0) rfl, (List.forall_mem_cons.mpr ⟨List.mem_of_getElem? (i := 1) rfl, (List.forall_mem_cons.mpr ⟨List.mem_of_getElem? (i := 2) rfl, (fun _ h => absurd h List.not_mem_nil)⟩)⟩)⟩) rfl (he _ (show (B_X4_firstExporter_2 s a1 a2 x3) = ((some none), x3) from ((if_neg c0).trans ((if_pos c1).trans rfl))))
    · refine rx_icF rfl (bf c1) rfl ?_
      refine rx_k 2 (18, [(0, .ref (b + 23)), (1, .int a1), (2, .int a2), (3, .int x3)], [.ref (b + 23), .ref (b + 23)]) (fun _ _ => rfl) ?_
      refine rx_getf rfl rfl (wg_23 hP) rfl ?_
      refine rx_k 1 (22, [(0, .ref (b + 23)), (1, .int a1), (2, .int a2), (3, .int x3)], [.int x3, .ref (b + 32), .ref (b + 23)]) (fun _ _ => rfl) ?_
      refine rx_ild rfl rfl (wg_32 hP) (ar_at (rg_c hv c1 (m := 6) (n := 6) rfl)) ?_
      refine rx_k 1 (24, [(0, .ref (b + 23)), (1, .int a1), (2, .int a2), (3, .int x3)], [.int a2, .int (s 32 x3.toNatClampNeg), .ref (b + 23)]) (fun _ _ => rfl) ?_
      refine rx_inv rfl rfl (rc_X4_isExport hP) rfl rfl rfl (q_recv (wg_23 hP)) rfl rfl ?_
      by_cases c2 : (D_X4_isExport s (s 32 x3.toNatClampNeg) a2) = 0
      · refine rx_ifT rfl (bt c2) ?_
        refine rx_k 2 (2, [(3, .int (x3 + 1)), (0, .ref (b + 23)), (1, .int a1), (2, .int a2)], []) (fun _ _ => rfl) ?_
        refine rx_lo am_X4_firstExporter (lo := [(0, .ref (b + 23)), (1, .int a1), (2, .int a2), (3, .int (x3 + 1))]) (List.forall_mem_cons.mpr ⟨List.mem_of_getElem? (i := 1) rfl, (List.forall_mem_cons.mpr ⟨List.mem_of_getElem? (i := 2) rfl, (List.forall_mem_cons.mpr ⟨List.mem_of_getElem? (i := 3) rfl, (List.forall_mem_cons.mpr ⟨List.mem_of_getElem? (i := 0) rfl, (fun _ h => absurd h List.not_mem_nil)⟩)⟩)⟩)⟩) rfl (hc _ (show (B_X4_firstExporter_2 s a1 a2 x3) = (none, (x3 + 1)) from ((if_neg c0).trans ((if_neg c1).trans ((if_pos c2).trans rfl)))) (lt_nle c0) rfl)
      · refine rx_ifF rfl (bf c2) rfl ?_
        refine rx_k 1 (31, [(0, .ref (b + 23)), (1, .int a1), (2, .int a2), (3, .int x3)], [.ref (b + 23)]) (fun _ _ => rfl) ?_
        refine rx_getf rfl rfl (wg_23 hP) rfl ?_
        refine rx_k 1 (35, [(0, .ref (b + 23)), (1, .int a1), (2, .int a2), (3, .int x3)], [.int x3, .ref (b + 32)]) (fun _ _ => rfl) ?_
        refine rx_ild rfl rfl (wg_32 hP) (ar_at (rg_c hv c1 (m := 6) (n := 6) rfl)) ?_
        obtain ⟨hr1, hr2⟩ := hr _ _ (show (B_X4_firstExporter_2 s a1 a2 x3) = (some (some (s 32 x3.toNatClampNeg)), x3) from ((if_neg c0).trans ((if_neg c1).trans ((if_neg c2).trans rfl))))
        rw [hr1, hr2]
        exact rx_ri rfl
def fr_X4_firstExporter_52 (b w : Nat) (a2 : Int32) (a3 : Int32) (x4 : Int32) : EF := (52, [(0, .ref (b + 23)), (2, .int a2), (3, .int a3), (4, .int x4)], [])
def fe_X4_firstExporter_52 (b w : Nat) (a2 : Int32) (a3 : Int32) (x4 : Int32) : EF := (108, [], [])
noncomputable def B_X4_firstExporter_52 (s : Sg) (a2 : Int32) (a3 : Int32) (x4 : Int32) : Option (Option Int32) × (Int32) := (if a3 ≤ x4 then ((some none), x4) else (if 6 ≤ x4 then ((some none), x4) else (if (D_X4_isLoaded s (s 34 x4.toNatClampNeg)) = 0 then (none, (x4 + 1)) else (if (D_X4_isExport s (s 34 x4.toNatClampNeg) a2) = 0 then (none, (x4 + 1)) else (some (some (s 34 x4.toNatClampNeg)), x4)))))
theorem b_X4_firstExporter_52 (hP : WOK b w H0) {s : Sg} {a2 : Int32} {a3 : Int32} {x4 : Int32} (o : Option Value) (h' : EH) (hN : NN s) (hv : 0 ≤ x4.toInt) (hc : ∀ (t4 : Int32), (B_X4_firstExporter_52 s a2 a3 x4) = (none, t4) → x4.toInt < 2147483647 → t4 = x4 + 1 → Rx sc g_X4_firstExporter 3 (fr_X4_firstExporter_52 b w a2 a3 t4) (wd b w wl H0 s, kn) o h') (he : ∀ (t4 : Int32), (B_X4_firstExporter_52 s a2 a3 x4) = (some none, t4) → Rx sc g_X4_firstExporter 3 (fe_X4_firstExporter_52 b w a2 a3 t4) (wd b w wl H0 s, kn) o h') (hr : ∀ (v : Int32) (t4 : Int32), (B_X4_firstExporter_52 s a2 a3 x4) = (some (some v), t4) → o = some (.int v) ∧ h' = (wd b w wl H0 s, kn)) : Rx sc g_X4_firstExporter 3 (fr_X4_firstExporter_52 b w a2 a3 x4) (wd b w wl H0 s, kn) o h' := by
  show Rx sc g_X4_firstExporter 3 (52, [(0, .ref (b + 23)), (2, .int a2), (3, .int a3), (4, .int x4)], []) (wd b w wl H0 s, kn) o h'
  refine rx_k 2 (55, [(0, .ref (b + 23)), (2, .int a2), (3, .int a3), (4, .int x4)], [.int a3, .int x4]) (fun _ _ => rfl) ?_
  by_cases c0 : a3 ≤ x4
  · refine rx_icT rfl (bt c0) ?_
    exact rx_lo am_X4_firstExporter (lo := []) (fun _ h => absurd h List.not_mem_nil) rfl (he _ (show (B_X4_firstExporter_52 s a2 a3 x4) = ((some none), x4) from ((if_pos c0).trans rfl)))
  · refine rx_icF rfl (bf c0) rfl ?_
    refine rx_k 2 (62, [(0, .ref (b + 23)), (2, .int a2), (3, .int a3), (4, .int x4)], [.int 6, .int x4]) (fun _ _ => rfl) ?_
    by_cases c1 : 6 ≤ x4
    · refine rx_icT rfl (bt c1) ?_
      exact rx_lo am_X4_firstExporter (lo := []) (fun _ h => absurd h List.not_mem_nil) rfl (he _ (show (B_X4_firstExporter_52 s a2 a3 x4) = ((some none), x4) from ((if_neg c0).trans ((if_pos c1).trans rfl))))
    · refine rx_icF rfl (bf c1) rfl ?_
      refine rx_k 2 (67, [(0, .ref (b + 23)), (2, .int a2), (3, .int a3), (4, .int x4)], [.ref (b + 23), .ref (b + 23)]) (fun _ _ => rfl) ?_
      refine rx_getf rfl rfl (wg_23 hP) rfl ?_
      refine rx_k 1 (72, [(0, .ref (b + 23)), (2, .int a2), (3, .int a3), (4, .int x4)], [.int x4, .ref (b + 34), .ref (b + 23)]) (fun _ _ => rfl) ?_
      refine rx_ild rfl rfl (wg_34 hP) (ar_at (rg_c hv c1 (m := 6) (n := 6) rfl)) ?_
      refine rx_inv rfl rfl (rc_X4_isLoaded hP) rfl rfl rfl (q_recv (wg_23 hP)) rfl rfl ?_
      by_cases c2 : (D_X4_isLoaded s (s 34 x4.toNatClampNeg)) = 0
      · refine rx_ifT rfl (bt c2) ?_
        refine rx_k 2 (52, [(4, .int (x4 + 1)), (0, .ref (b + 23)), (2, .int a2), (3, .int a3)], []) (fun _ _ => rfl) ?_
        refine rx_lo am_X4_firstExporter (lo := [(0, .ref (b + 23)), (2, .int a2), (3, .int a3), (4, .int (x4 + 1))]) (List.forall_mem_cons.mpr ⟨List.mem_of_getElem? (i := 1) rfl, (List.forall_mem_cons.mpr ⟨List.mem_of_getElem? (i := 2) rfl, (List.forall_mem_cons.mpr ⟨List.mem_of_getElem? (i := 3) rfl, (List.forall_mem_cons.mpr ⟨List.mem_of_getElem? (i := 0) rfl, (fun _ h => absurd h List.not_mem_nil)⟩)⟩)⟩)⟩) rfl (hc _ (show (B_X4_firstExporter_52 s a2 a3 x4) = (none, (x4 + 1)) from ((if_neg c0).trans ((if_neg c1).trans ((if_pos c2).trans rfl)))) (lt_nle c0) rfl)
      · refine rx_ifF rfl (bf c2) rfl ?_
        refine rx_k 2 (81, [(0, .ref (b + 23)), (2, .int a2), (3, .int a3), (4, .int x4)], [.ref (b + 23), .ref (b + 23)]) (fun _ _ => rfl) ?_
        refine rx_getf rfl rfl (wg_23 hP) rfl ?_
        refine rx_k 1 (86, [(0, .ref (b + 23)), (2, .int a2), (3, .int a3), (4, .int x4)], [.int x4, .ref (b + 34), .ref (b + 23)]) (fun _ _ => rfl) ?_
        refine rx_ild rfl rfl (wg_34 hP) (ar_at (rg_c hv c1 (m := 6) (n := 6) rfl)) ?_
        refine rx_k 1 (88, [(0, .ref (b + 23)), (2, .int a2), (3, .int a3), (4, .int x4)], [.int a2, .int (s 34 x4.toNatClampNeg), .ref (b + 23)]) (fun _ _ => rfl) ?_
        refine rx_inv rfl rfl (rc_X4_isExport hP) rfl rfl rfl (q_recv (wg_23 hP)) rfl rfl ?_
        by_cases c3 : (D_X4_isExport s (s 34 x4.toNatClampNeg) a2) = 0
        · refine rx_ifT rfl (bt c3) ?_
          refine rx_k 2 (52, [(4, .int (x4 + 1)), (0, .ref (b + 23)), (2, .int a2), (3, .int a3)], []) (fun _ _ => rfl) ?_
          refine rx_lo am_X4_firstExporter (lo := [(0, .ref (b + 23)), (2, .int a2), (3, .int a3), (4, .int (x4 + 1))]) (List.forall_mem_cons.mpr ⟨List.mem_of_getElem? (i := 1) rfl, (List.forall_mem_cons.mpr ⟨List.mem_of_getElem? (i := 2) rfl, (List.forall_mem_cons.mpr ⟨List.mem_of_getElem? (i := 3) rfl, (List.forall_mem_cons.mpr ⟨List.mem_of_getElem? (i := 0) rfl, (fun _ h => absurd h List.not_mem_nil)⟩)⟩)⟩)⟩) rfl (hc _ (show (B_X4_firstExporter_52 s a2 a3 x4) = (none, (x4 + 1)) from ((if_neg c0).trans ((if_neg c1).trans ((if_neg c2).trans ((if_pos c3).trans rfl))))) (lt_nle c0) rfl)
        · refine rx_ifF rfl (bf c3) rfl ?_
          refine rx_k 1 (95, [(0, .ref (b + 23)), (2, .int a2), (3, .int a3), (4, .int x4)], [.ref (b + 23)]) (fun _ _ => rfl) ?_
          refine rx_getf rfl rfl (wg_23 hP) rfl ?_
          refine rx_k 1 (100, [(0, .ref (b + 23)), (2, .int a2), (3, .int a3), (4, .int x4)], [.int x4, .ref (b + 34)]) (fun _ _ => rfl) ?_
          refine rx_ild rfl rfl (wg_34 hP) (ar_at (rg_c hv c1 (m := 6) (n := 6) rfl)) ?_
          obtain ⟨hr1, hr2⟩ := hr _ _ (show (B_X4_firstExporter_52 s a2 a3 x4) = (some (some (s 34 x4.toNatClampNeg)), x4) from ((if_neg c0).trans ((if_neg c1).trans ((if_neg c2).trans ((if_neg c3).trans rfl)))))
          rw [hr1, hr2]
          exact rx_ri rfl
noncomputable def R_X4_firstExporter_108 (s : Sg) : Int32 × Sg := ((-1), s)
theorem r_X4_firstExporter_108 (hP : WOK b w H0) {s : Sg} (hN : NN s) : Rx sc g_X4_firstExporter 3 ((108, [], [])) (wd b w wl H0 s, kn) (some (.int (R_X4_firstExporter_108 s).1)) (wd b w wl H0 (R_X4_firstExporter_108 s).2, kn) := by
  show Rx sc g_X4_firstExporter 3 (108, [], []) (wd b w wl H0 s, kn) (some (.int (R_X4_firstExporter_108 s).1)) (wd b w wl H0 (R_X4_firstExporter_108 s).2, kn)
  refine rx_k 1 (109, [], [.int (-1)]) (fun _ _ => rfl) ?_
  rw [(show (R_X4_firstExporter_108 s) = ((-1), s) from rfl)]
  exact rx_ri rfl
theorem nr_X4_firstExporter_108 {s : Sg} (hN : NN s) : NN ((R_X4_firstExporter_108 s).2) := by
  exact pair_of (P := fun zs => NN zs) (show (R_X4_firstExporter_108 s) = ((-1), s) from rfl) hN
noncomputable def R_X4_firstExporter_43 (s : Sg) (a1 : Int32) (a2 : Int32) : Int32 × Sg := (match (itf (B_X4_firstExporter_52 ((D_X4_fillRow s a1).2) a2 ((D_X4_fillRow s a1).1)) BIG 0) with | some v => (v, (D_X4_fillRow s a1).2) | none => (R_X4_firstExporter_108 ((D_X4_fillRow s a1).2)))
theorem r_X4_firstExporter_43 (hP : WOK b w H0) {s : Sg} {a1 : Int32} {a2 : Int32} (hN : NN s) : Rx sc g_X4_firstExporter 3 ((43, [(0, .ref (b + 23)), (1, .int a1), (2, .int a2)], [])) (wd b w wl H0 s, kn) (some (.int (R_X4_firstExporter_43 s a1 a2).1)) (wd b w wl H0 (R_X4_firstExporter_43 s a1 a2).2, kn) := by
  show Rx sc g_X4_firstExporter 3 (43, [(0, .ref (b + 23)), (1, .int a1), (2, .int a2)], []) (wd b w wl H0 s, kn) (some (.int (R_X4_firstExporter_43 s a1 a2).1)) (wd b w wl H0 (R_X4_firstExporter_43 s a1 a2).2, kn)
  refine rx_k 2 (45, [(0, .ref (b + 23)), (1, .int a1), (2, .int a2)], [.int a1, .ref (b + 23)]) (fun _ _ => rfl) ?_
  refine rx_inv rfl rfl (rc_X4_fillRow hP hN) rfl rfl rfl (q_recv (wg_23 hP)) rfl rfl ?_
  refine rx_k 3 (52, [(4, .int 0), (3, .int (D_X4_fillRow s a1).1), (0, .ref (b + 23)), (1, .int a1), (2, .int a2)], []) (fun _ _ => rfl) ?_
  refine rx_lo am_X4_firstExporter (lo := [(0, .ref (b + 23)), (2, .int a2), (3, .int (D_X4_fillRow s a1).1), (4, .int 0)]) (List.forall_mem_cons.mpr ⟨List.mem_of_getElem? (i := 2) rfl, (List.forall_mem_cons.mpr ⟨List.mem_of_getElem? (i := 4) rfl, (List.forall_mem_cons.mpr ⟨List.mem_of_getElem? (i := 1) rfl, (List.forall_mem_cons.mpr ⟨List.mem_of_getElem? (i := 0) rfl, (fun _ h => absurd h List.not_mem_nil)⟩)⟩)⟩)⟩) rfl ?_
  have e9 := (show (R_X4_firstExporter_43 s a1 a2) = (match (itf (B_X4_firstExporter_52 ((D_X4_fillRow s a1).2) a2 ((D_X4_fillRow s a1).1)) BIG 0) with | some v => (v, (D_X4_fillRow s a1).2) | none => (R_X4_firstExporter_108 ((D_X4_fillRow s a1).2))) from rfl)
  refine rx_loopF1 (B := B_X4_firstExporter_52 ((D_X4_fillRow s a1).2) a2 ((D_X4_fillRow s a1).1)) (fr := (fr_X4_firstExporter_52 b w a2 ((D_X4_fillRow s a1).1))) (E := (fe_X4_firstExporter_52 b w a2 ((D_X4_fillRow s a1).1))) (hp := (wd b w wl H0 (D_X4_fillRow s a1).2, kn)) (fun z hv9 hc9 he9 hr9 => b_X4_firstExporter_52 hP _ _ (nn_X4_fillRow hN) hv9 hc9 he9 hr9) BIG 0 (by decide : (0 : Int) ≤ (0 : Int32).toInt) (le_enough (by decide : (0 : Int) ≤ (0 : Int32).toInt)) (fun e1 y => ?_) (fun v e1 => ?_)
  · rw [e9, e1]
    exact r_X4_firstExporter_108 hP (nn_X4_fillRow hN)
  · exact ⟨by rw [e9, e1], by rw [e9, e1]⟩
theorem nr_X4_firstExporter_43 {s : Sg} {a1 : Int32} {a2 : Int32} (hN : NN s) : NN ((R_X4_firstExporter_43 s a1 a2).2) := by
  rw [show (R_X4_firstExporter_43 s a1 a2) = (match (itf (B_X4_firstExporter_52 ((D_X4_fillRow s a1).2) a2 ((D_X4_fillRow s a1).1)) BIG 0) with | some v => (v, (D_X4_fillRow s a1).2) | none => (R_X4_firstExporter_108 ((D_X4_fillRow s a1).2))) from rfl]
  exact (by cases h9 : (itf (B_X4_firstExporter_52 ((D_X4_fillRow s a1).2) a2 ((D_X4_fillRow s a1).1)) BIG 0) with | none => exact (nr_X4_firstExporter_108 (nn_X4_fillRow hN)) | some v => exact (nn_X4_fillRow hN))
noncomputable def D_X4_firstExporter (s : Sg) (a1 : Int32) (a2 : Int32) : Int32 × Sg := (match (itf (B_X4_firstExporter_2 s a1 a2) BIG 0) with | some v => (v, s) | none => (R_X4_firstExporter_43 s a1 a2))
theorem m_X4_firstExporter (hP : WOK b w H0) {s : Sg} {a1 : Int32} {a2 : Int32} (hN : NN s) : Rx sc g_X4_firstExporter 3 ((0, [(0, .ref (b + 23)), (1, .int a1), (2, .int a2)], [])) (wd b w wl H0 s, kn) (some (.int (D_X4_firstExporter s a1 a2).1)) (wd b w wl H0 (D_X4_firstExporter s a1 a2).2, kn) := by
  show Rx sc g_X4_firstExporter 3 (0, [(0, .ref (b + 23)), (1, .int a1), (2, .int a2)], []) (wd b w wl H0 s, kn) (some (.int (D_X4_firstExporter s a1 a2).1)) (wd b w wl H0 (D_X4_firstExporter s a1 a2).2, kn)
  refine rx_k 2 (2, [(3, .int 0), (0, .ref (b + 23)), (1, .int a1), (2, .int a2)], []) (fun _ _ => rfl) ?_
  refine rx_lo am_X4_firstExporter (lo := [(0, .ref (b + 23)), (1, .int a1), (2, .int a2), (3, .int 0)]) (List.forall_mem_cons.mpr ⟨List.mem_of_getElem? (i := 1) rfl, (List.forall_mem_cons.mpr ⟨List.mem_of_getElem? (i := 2) rfl, (List.forall_mem_cons.mpr ⟨List.mem_of_getElem? (i := 3) rfl, (List.forall_mem_cons.mpr ⟨List.mem_of_getElem? (i := 0) rfl, (fun _ h => absurd h List.not_mem_nil)⟩)⟩)⟩)⟩) rfl ?_
  have e9 := (show (D_X4_firstExporter s a1 a2) = (match (itf (B_X4_firstExporter_2 s a1 a2) BIG 0) with | some v => (v, s) | none => (R_X4_firstExporter_43 s a1 a2)) from rfl)
  refine rx_loopF1 (B := B_X4_firstExporter_2 s a1 a2) (fr := (fr_X4_firstExporter_2 b w a1 a2)) (E := (fe_X4_firstExporter_2 b w a1 a2)) (hp := (wd b w wl H0 s, kn)) (fun z hv9 hc9 he9 hr9 => b_X4_firstExporter_2 hP _ _ hN hv9 hc9 he9 hr9) BIG 0 (by decide : (0 : Int) ≤ (0 : Int32).toInt) (le_enough (by decide : (0 : Int) ≤ (0 : Int32).toInt)) (fun e1 y => ?_) (fun v e1 => ?_)
  · rw [e9, e1]
    exact r_X4_firstExporter_43 hP hN
  · exact ⟨by rw [e9, e1], by rw [e9, e1]⟩
theorem rc_X4_firstExporter (hP : WOK b w H0) {s : Sg} {a1 : Int32} {a2 : Int32} (hN : NN s) : Rc sc 4 75 [.ref (b + 23), .int a1, .int a2] (wd b w wl H0 s, kn) (some (.int (D_X4_firstExporter s a1 a2).1)) (wd b w wl H0 (D_X4_firstExporter s a1 a2).2, kn) := rx_mc (m_X4_firstExporter hP hN) rfl rfl (Nat.ble_eq_true_of_le (Nat.le_refl _)) (Nat.ble_eq_true_of_le (Nat.le_refl _))
theorem nn_X4_firstExporter {s : Sg} {a1 : Int32} {a2 : Int32} (hN : NN s) : NN (D_X4_firstExporter s a1 a2).2 := by
  rw [show (D_X4_firstExporter s a1 a2) = (match (itf (B_X4_firstExporter_2 s a1 a2) BIG 0) with | some v => (v, s) | none => (R_X4_firstExporter_43 s a1 a2)) from rfl]
  exact (by cases h9 : (itf (B_X4_firstExporter_2 s a1 a2) BIG 0) with | none => exact (nr_X4_firstExporter_43 hN) | some v => exact hN)
theorem fwr_X4_firstExporter_108 {s : Sg} {k j : Nat} (h23f12 : k ≠ 23 ∨ j ≠ 12) (h34 : k ≠ 34) : (R_X4_firstExporter_108 s).2 k j = s k j := by
  exact pair_of (P := fun zs => zs k j = s k j) (show (R_X4_firstExporter_108 s) = ((-1), s) from rfl) rfl
theorem fwr_X4_firstExporter_43 {s : Sg} {a1 : Int32} {a2 : Int32} {k j : Nat} (h23f12 : k ≠ 23 ∨ j ≠ 12) (h34 : k ≠ 34) : (R_X4_firstExporter_43 s a1 a2).2 k j = s k j := by
  rw [show (R_X4_firstExporter_43 s a1 a2) = (match (itf (B_X4_firstExporter_52 ((D_X4_fillRow s a1).2) a2 ((D_X4_fillRow s a1).1)) BIG 0) with | some v => (v, (D_X4_fillRow s a1).2) | none => (R_X4_firstExporter_108 ((D_X4_fillRow s a1).2))) from rfl]
  first | done | exact (by cases h9 : (itf (B_X4_firstExporter_52 ((D_X4_fillRow s a1).2) a2 ((D_X4_fillRow s a1).1)) BIG 0) with | none => exact ((fwr_X4_firstExporter_108 h23f12 h34).trans ((fw_X4_fillRow h23f12 h34).trans rfl)) | some v => exact ((fw_X4_fillRow h23f12 h34).trans rfl))
theorem fw_X4_firstExporter {s : Sg} {a1 : Int32} {a2 : Int32} {k j : Nat} (h23f12 : k ≠ 23 ∨ j ≠ 12) (h34 : k ≠ 34) : (D_X4_firstExporter s a1 a2).2 k j = s k j := by
  rw [show (D_X4_firstExporter s a1 a2) = (match (itf (B_X4_firstExporter_2 s a1 a2) BIG 0) with | some v => (v, s) | none => (R_X4_firstExporter_43 s a1 a2)) from rfl]
  first | done | exact (by cases h9 : (itf (B_X4_firstExporter_2 s a1 a2) BIG 0) with | none => exact ((fwr_X4_firstExporter_43 h23f12 h34).trans rfl) | some v => exact rfl)
-- LinkHarbour$Link.isDone
noncomputable def D_X5_isDone (q : Nat) (s : Sg) : Int32 := (zb (s q 6))
theorem m_X5_isDone (hP : WOK b w H0) {q : Nat} (hq : q = 38 ∨ q = 60) {s : Sg} : Rx sc g_X5_isDone 0 ((0, [(0, .ref (b + q))], [])) (wd b w wl H0 s, kn) (some (.int (D_X5_isDone q s))) (wd b w wl H0 s, kn) := by
  show Rx sc g_X5_isDone 0 (0, [(0, .ref (b + q))], []) (wd b w wl H0 s, kn) (some (.int (D_X5_isDone q s))) (wd b w wl H0 s, kn)
  refine rx_k 1 (1, [(0, .ref (b + q))], [.ref (b + q)]) (fun _ _ => rfl) ?_
  refine rx_getf rfl rfl (wl_0 hP hq) rfl ?_
  rw [(show (D_X5_isDone q s) = (zb (s q 6)) from rfl)]
  exact rx_ri rfl
theorem bz_X5_isDone {q : Nat} {s : Sg} : bz (D_X5_isDone q s) = true := by
  rw [show (D_X5_isDone q s) = (zb (s q 6)) from rfl]
  exact bz_zb
theorem rc_X5_isDone (hP : WOK b w H0) {q : Nat} (hq : q = 38 ∨ q = 60) {s : Sg} : Rc sc 1 77 [.ref (b + q)] (wd b w wl H0 s, kn) (some (.int (D_X5_isDone q s))) (wd b w wl H0 s, kn) := rx_mc (m_X5_isDone hP hq) rfl (bz_X5_isDone ..) (Nat.ble_eq_true_of_le (Nat.le_refl _)) (Nat.ble_eq_true_of_le (Nat.le_refl _))
-- LinkHarbour$Link.isShared
noncomputable def D_X5_isShared (q : Nat) (s : Sg) : Int32 := (zb (s q 7))
theorem m_X5_isShared (hP : WOK b w H0) {q : Nat} (hq : q = 38 ∨ q = 60) {s : Sg} : Rx sc g_X5_isShared 0 ((0, [(0, .ref (b + q))], [])) (wd b w wl H0 s, kn) (some (.int (D_X5_isShared q s))) (wd b w wl H0 s, kn) := by
  show Rx sc g_X5_isShared 0 (0, [(0, .ref (b + q))], []) (wd b w wl H0 s, kn) (some (.int (D_X5_isShared q s))) (wd b w wl H0 s, kn)
  refine rx_k 1 (1, [(0, .ref (b + q))], [.ref (b + q)]) (fun _ _ => rfl) ?_
  refine rx_getf rfl rfl (wl_0 hP hq) rfl ?_
  rw [(show (D_X5_isShared q s) = (zb (s q 7)) from rfl)]
  exact rx_ri rfl
theorem bz_X5_isShared {q : Nat} {s : Sg} : bz (D_X5_isShared q s) = true := by
  rw [show (D_X5_isShared q s) = (zb (s q 7)) from rfl]
  exact bz_zb
theorem rc_X5_isShared (hP : WOK b w H0) {q : Nat} (hq : q = 38 ∨ q = 60) {s : Sg} : Rc sc 1 78 [.ref (b + q)] (wd b w wl H0 s, kn) (some (.int (D_X5_isShared q s))) (wd b w wl H0 s, kn) := rx_mc (m_X5_isShared hP hq) rfl (bz_X5_isShared ..) (Nat.ble_eq_true_of_le (Nat.le_refl _)) (Nat.ble_eq_true_of_le (Nat.le_refl _))
-- LinkHarbour$Link.entry
noncomputable def D_X5_entry (q : Nat) (s : Sg) : Int32 := (s q 8)
theorem m_X5_entry (hP : WOK b w H0) {q : Nat} (hq : q = 38 ∨ q = 60) {s : Sg} : Rx sc g_X5_entry 0 ((0, [(0, .ref (b + q))], [])) (wd b w wl H0 s, kn) (some (.int (D_X5_entry q s))) (wd b w wl H0 s, kn) := by
  show Rx sc g_X5_entry 0 (0, [(0, .ref (b + q))], []) (wd b w wl H0 s, kn) (some (.int (D_X5_entry q s))) (wd b w wl H0 s, kn)
  refine rx_k 1 (1, [(0, .ref (b + q))], [.ref (b + q)]) (fun _ _ => rfl) ?_
  refine rx_getf rfl rfl (wl_0 hP hq) rfl ?_
  rw [(show (D_X5_entry q s) = (s q 8) from rfl)]
  exact rx_ri rfl
theorem rc_X5_entry (hP : WOK b w H0) {q : Nat} (hq : q = 38 ∨ q = 60) {s : Sg} : Rc sc 1 79 [.ref (b + q)] (wd b w wl H0 s, kn) (some (.int (D_X5_entry q s))) (wd b w wl H0 s, kn) := rx_mc (m_X5_entry hP hq) rfl rfl (Nat.ble_eq_true_of_le (Nat.le_refl _)) (Nat.ble_eq_true_of_le (Nat.le_refl _))
-- LinkHarbour$ObjectTable.needed
noncomputable def D_X6_needed (s : Sg) (a1 : Int32) : Int32 := (if a1 < 0 then 0 else (if 10 ≤ a1 then 0 else (s 4 a1.toNatClampNeg)))
theorem m_X6_needed (hP : WOK b w H0) {s : Sg} {a1 : Int32} : Rx sc g_X6_needed 0 ((0, [(0, .ref (b + 1)), (1, .int a1)], [])) (wd b w wl H0 s, kn) (some (.int (D_X6_needed s a1))) (wd b w wl H0 s, kn) := by
  show Rx sc g_X6_needed 0 (0, [(0, .ref (b + 1)), (1, .int a1)], []) (wd b w wl H0 s, kn) (some (.int (D_X6_needed s a1))) (wd b w wl H0 s, kn)
  refine rx_k 1 (1, [(0, .ref (b + 1)), (1, .int a1)], [.int a1]) (fun _ _ => rfl) ?_
  by_cases c0 : a1 < 0
  · refine rx_ifT rfl (bt c0) ?_
    refine rx_k 1 (20, [(0, .ref (b + 1)), (1, .int a1)], [.int 0]) (fun _ _ => rfl) ?_
    rw [(show (D_X6_needed s a1) = 0 from ((if_pos c0).trans rfl))]
    exact rx_ri rfl
  · refine rx_ifF rfl (bf c0) rfl ?_
    refine rx_k 2 (7, [(0, .ref (b + 1)), (1, .int a1)], [.int 10, .int a1]) (fun _ _ => rfl) ?_
    by_cases c1 : 10 ≤ a1
    · refine rx_icT rfl (bt c1) ?_
      refine rx_k 1 (20, [(0, .ref (b + 1)), (1, .int a1)], [.int 0]) (fun _ _ => rfl) ?_
      rw [(show (D_X6_needed s a1) = 0 from ((if_neg c0).trans ((if_pos c1).trans rfl)))]
      exact rx_ri rfl
    · refine rx_icF rfl (bf c1) rfl ?_
      refine rx_k 1 (11, [(0, .ref (b + 1)), (1, .int a1)], [.ref (b + 1)]) (fun _ _ => rfl) ?_
      refine rx_getf rfl rfl (wg_1 hP) rfl ?_
      refine rx_k 1 (15, [(0, .ref (b + 1)), (1, .int a1)], [.int a1, .ref (b + 4)]) (fun _ _ => rfl) ?_
      refine rx_ild rfl rfl (wg_4 hP) (ar_at (rg_c (i_ge c0 rfl) c1 (m := 10) (n := 10) rfl)) ?_
      refine rx_k 1 (20, [(0, .ref (b + 1)), (1, .int a1)], [.int (s 4 a1.toNatClampNeg)]) (fun _ _ => rfl) ?_
      rw [(show (D_X6_needed s a1) = (s 4 a1.toNatClampNeg) from ((if_neg c0).trans ((if_neg c1).trans rfl)))]
      exact rx_ri rfl
theorem rc_X6_needed (hP : WOK b w H0) {s : Sg} {a1 : Int32} : Rc sc 1 93 [.ref (b + 1), .int a1] (wd b w wl H0 s, kn) (some (.int (D_X6_needed s a1))) (wd b w wl H0 s, kn) := rx_mc (m_X6_needed hP) rfl rfl (Nat.ble_eq_true_of_le (Nat.le_refl _)) (Nat.ble_eq_true_of_le (Nat.le_refl _))
-- LinkHarbour$ObjectTable.defined
noncomputable def D_X6_defined (s : Sg) (a1 : Int32) : Int32 := (if a1 < 0 then 0 else (if 10 ≤ a1 then 0 else (s 2 a1.toNatClampNeg)))
theorem m_X6_defined (hP : WOK b w H0) {s : Sg} {a1 : Int32} : Rx sc g_X6_defined 0 ((0, [(0, .ref (b + 1)), (1, .int a1)], [])) (wd b w wl H0 s, kn) (some (.int (D_X6_defined s a1))) (wd b w wl H0 s, kn) := by
  show Rx sc g_X6_defined 0 (0, [(0, .ref (b + 1)), (1, .int a1)], []) (wd b w wl H0 s, kn) (some (.int (D_X6_defined s a1))) (wd b w wl H0 s, kn)
  refine rx_k 1 (1, [(0, .ref (b + 1)), (1, .int a1)], [.int a1]) (fun _ _ => rfl) ?_
  by_cases c0 : a1 < 0
  · refine rx_ifT rfl (bt c0) ?_
    refine rx_k 1 (20, [(0, .ref (b + 1)), (1, .int a1)], [.int 0]) (fun _ _ => rfl) ?_
    rw [(show (D_X6_defined s a1) = 0 from ((if_pos c0).trans rfl))]
    exact rx_ri rfl
  · refine rx_ifF rfl (bf c0) rfl ?_
    refine rx_k 2 (7, [(0, .ref (b + 1)), (1, .int a1)], [.int 10, .int a1]) (fun _ _ => rfl) ?_
    by_cases c1 : 10 ≤ a1
    · refine rx_icT rfl (bt c1) ?_
      refine rx_k 1 (20, [(0, .ref (b + 1)), (1, .int a1)], [.int 0]) (fun _ _ => rfl) ?_
      rw [(show (D_X6_defined s a1) = 0 from ((if_neg c0).trans ((if_pos c1).trans rfl)))]
      exact rx_ri rfl
    · refine rx_icF rfl (bf c1) rfl ?_
      refine rx_k 1 (11, [(0, .ref (b + 1)), (1, .int a1)], [.ref (b + 1)]) (fun _ _ => rfl) ?_
      refine rx_getf rfl rfl (wg_1 hP) rfl ?_
      refine rx_k 1 (15, [(0, .ref (b + 1)), (1, .int a1)], [.int a1, .ref (b + 2)]) (fun _ _ => rfl) ?_
      refine rx_ild rfl rfl (wg_2 hP) (ar_at (rg_c (i_ge c0 rfl) c1 (m := 10) (n := 10) rfl)) ?_
      refine rx_k 1 (20, [(0, .ref (b + 1)), (1, .int a1)], [.int (s 2 a1.toNatClampNeg)]) (fun _ _ => rfl) ?_
      rw [(show (D_X6_defined s a1) = (s 2 a1.toNatClampNeg) from ((if_neg c0).trans ((if_neg c1).trans rfl)))]
      exact rx_ri rfl
theorem rc_X6_defined (hP : WOK b w H0) {s : Sg} {a1 : Int32} : Rc sc 1 91 [.ref (b + 1), .int a1] (wd b w wl H0 s, kn) (some (.int (D_X6_defined s a1))) (wd b w wl H0 s, kn) := rx_mc (m_X6_defined hP) rfl rfl (Nat.ble_eq_true_of_le (Nat.le_refl _)) (Nat.ble_eq_true_of_le (Nat.le_refl _))
-- LinkHarbour$Taking.add
noncomputable def D_X10_add (q : Nat) (s : Sg) (a1 : Int32) : Sg := (if (s (q + 3) 3) < 10 then (up (up (up (up (up s (q + 4) (s (q + 3) 3).toNatClampNeg a1) (q + 3) 3 ((s (q + 3) 3) + 1)) (q + 3) 4 ((s (q + 3) 4) ||| (1 <<< (a1 &&& 31)))) (q + 3) 5 ((s (q + 3) 5) ||| (D_X6_needed (up (up (up s (q + 4) (s (q + 3) 3).toNatClampNeg a1) (q + 3) 3 ((s (q + 3) 3) + 1)) (q + 3) 4 ((s (q + 3) 4) ||| (1 <<< (a1 &&& 31)))) a1))) (q + 3) 6 ((s (q + 3) 6) ||| (D_X6_defined (up (up (up (up s (q + 4) (s (q + 3) 3).toNatClampNeg a1) (q + 3) 3 ((s (q + 3) 3) + 1)) (q + 3) 4 ((s (q + 3) 4) ||| (1 <<< (a1 &&& 31)))) (q + 3) 5 ((s (q + 3) 5) ||| (D_X6_needed (up (up (up s (q + 4) (s (q + 3) 3).toNatClampNeg a1) (q + 3) 3 ((s (q + 3) 3) + 1)) (q + 3) 4 ((s (q + 3) 4) ||| (1 <<< (a1 &&& 31)))) a1))) a1))) else s)
theorem m_X10_add (hP : WOK b w H0) {q : Nat} (hq : q = 38 ∨ q = 60) {s : Sg} {a1 : Int32} (hN : NN s) : Rx sc g_X10_add 1 ((0, [(0, .ref (b + (q + 3))), (1, .int a1)], [])) (wd b w wl H0 s, kn) none (wd b w wl H0 (D_X10_add q s a1), kn) := by
  show Rx sc g_X10_add 1 (0, [(0, .ref (b + (q + 3))), (1, .int a1)], []) (wd b w wl H0 s, kn) none (wd b w wl H0 (D_X10_add q s a1), kn)
  refine rx_k 1 (1, [(0, .ref (b + (q + 3))), (1, .int a1)], [.ref (b + (q + 3))]) (fun _ _ => rfl) ?_
  refine rx_getf rfl rfl (wl_3 hP hq) rfl ?_
  refine rx_k 1 (6, [(0, .ref (b + (q + 3))), (1, .int a1)], [.int 10, .int (s (q + 3) 3)]) (fun _ _ => rfl) ?_
  by_cases c0 : (s (q + 3) 3) < 10
  · refine rx_icT rfl (bt c0) ?_
    refine rx_k 1 (11, [(0, .ref (b + (q + 3))), (1, .int a1)], [.ref (b + (q + 3))]) (fun _ _ => rfl) ?_
    refine rx_getf rfl rfl (wl_3 hP hq) rfl ?_
    refine rx_k 1 (15, [(0, .ref (b + (q + 3))), (1, .int a1)], [.ref (b + (q + 3)), .ref (b + (q + 4))]) (fun _ _ => rfl) ?_
    refine rx_getf rfl rfl (wl_3 hP hq) rfl ?_
    refine rx_k 1 (19, [(0, .ref (b + (q + 3))), (1, .int a1)], [.int a1, .int (s (q + 3) 3), .ref (b + (q + 4))]) (fun _ _ => rfl) ?_
    refine rx_ist rfl rfl (wl_4 hP hq) rfl (ar_at (rg_d (hN (q + 3) 3 (by first | rfl | (rcases hq with rfl | rfl <;> rfl))) c0 (m := 10) (n := 10) rfl)) (wz_4 hP hq (rg_d (hN (q + 3) 3 (by first | rfl | (rcases hq with rfl | rfl <;> rfl))) c0 (m := 10) (n := 10) rfl)) ?_
    refine rx_k 2 (22, [(0, .ref (b + (q + 3))), (1, .int a1)], [.ref (b + (q + 3)), .ref (b + (q + 3))]) (fun _ _ => rfl) ?_
    refine rx_getf (v := .int (s (q + 3) 3)) rfl rfl (wl_3 hP hq) (congrArg (fun z => some (Value.int z)) (rd_nk (by omega))) ?_
    refine rx_k 2 (27, [(0, .ref (b + (q + 3))), (1, .int a1)], [.int ((s (q + 3) 3) + 1), .ref (b + (q + 3))]) (fun _ _ => rfl) ?_
    refine rx_putf rfl rfl (wl_3 hP hq) rfl (wz_3_3 hP hq) ?_
    refine rx_k 2 (32, [(0, .ref (b + (q + 3))), (1, .int a1)], [.ref (b + (q + 3)), .ref (b + (q + 3))]) (fun _ _ => rfl) ?_
    refine rx_getf (v := .int (s (q + 3) 4)) rfl rfl (wl_3 hP hq) (congrArg (fun z => some (Value.int z)) ((rd_nj (by decide)).trans (rd_nk (by omega)))) ?_
    refine rx_k 4 (39, [(0, .ref (b + (q + 3))), (1, .int a1)], [.int ((s (q + 3) 4) ||| (1 <<< (a1 &&& 31))), .ref (b + (q + 3))]) (fun _ _ => rfl) ?_
    refine rx_putf rfl rfl (wl_3 hP hq) rfl (wz_3_4 hP hq) ?_
    refine rx_k 2 (44, [(0, .ref (b + (q + 3))), (1, .int a1)], [.ref (b + (q + 3)), .ref (b + (q + 3))]) (fun _ _ => rfl) ?_
    refine rx_getf (v := .int (s (q + 3) 5)) rfl rfl (wl_3 hP hq) (congrArg (fun z => some (Value.int z)) (((rd_nj (by decide)).trans (rd_nj (by decide))).trans (rd_nk (by omega)))) ?_
    refine rx_k 1 (48, [(0, .ref (b + (q + 3))), (1, .int a1)], [.ref (b + (q + 3)), .int (s (q + 3) 5), .ref (b + (q + 3))]) (fun _ _ => rfl) ?_
    refine rx_getf rfl rfl (wl_3 hP hq) rfl ?_
    refine rx_k 1 (52, [(0, .ref (b + (q + 3))), (1, .int a1)], [.int a1, .ref (b + 1), .int (s (q + 3) 5), .ref (b + (q + 3))]) (fun _ _ => rfl) ?_
    refine rx_inv rfl rfl (rc_X6_needed hP) rfl rfl rfl (q_recv (wg_1 hP)) rfl rfl ?_
    refine rx_k 1 (56, [(0, .ref (b + (q + 3))), (1, .int a1)], [.int ((s (q + 3) 5) ||| (D_X6_needed (up (up (up s (q + 4) (s (q + 3) 3).toNatClampNeg a1) (q + 3) 3 ((s (q + 3) 3) + 1)) (q + 3) 4 ((s (q + 3) 4) ||| (1 <<< (a1 &&& 31)))) a1)), .ref (b + (q + 3))]) (fun _ _ => rfl) ?_
    refine rx_putf rfl rfl (wl_3 hP hq) rfl (wz_3_5 hP hq) ?_
    refine rx_k 2 (61, [(0, .ref (b + (q + 3))), (1, .int a1)], [.ref (b + (q + 3)), .ref (b + (q + 3))]) (fun _ _ => rfl) ?_
    refine rx_getf (v := .int (s (q + 3) 6)) rfl rfl (wl_3 hP hq) (congrArg (fun z => some (Value.int z)) ((((rd_nj (by decide)).trans (rd_nj (by decide))).trans (rd_nj (by decide))).trans (rd_nk (by omega)))) ?_
    refine rx_k 1 (65, [(0, .ref (b + (q + 3))), (1, .int a1)], [.ref (b + (q + 3)), .int (s (q + 3) 6), .ref (b + (q + 3))]) (fun _ _ => rfl) ?_
    refine rx_getf rfl rfl (wl_3 hP hq) rfl ?_
    refine rx_k 1 (69, [(0, .ref (b + (q + 3))), (1, .int a1)], [.int a1, .ref (b + 1), .int (s (q + 3) 6), .ref (b + (q + 3))]) (fun _ _ => rfl) ?_
    refine rx_inv rfl rfl (rc_X6_defined hP) rfl rfl rfl (q_recv (wg_1 hP)) rfl rfl ?_
    refine rx_k 1 (73, [(0, .ref (b + (q + 3))), (1, .int a1)], [.int ((s (q + 3) 6) ||| (D_X6_defined (up (up (up (up s (q + 4) (s (q + 3) 3).toNatClampNeg a1) (q + 3) 3 ((s (q + 3) 3) + 1)) (q + 3) 4 ((s (q + 3) 4) ||| (1 <<< (a1 &&& 31)))) (q + 3) 5 ((s (q + 3) 5) ||| (D_X6_needed (up (up (up s (q + 4) (s (q + 3) 3).toNatClampNeg a1) (q + 3) 3 ((s (q + 3) 3) + 1)) (q + 3) 4 ((s (q + 3) 4) ||| (1 <<< (a1 &&& 31)))) a1))) a1)), .ref (b + (q + 3))]) (fun _ _ => rfl) ?_
    refine rx_putf rfl rfl (wl_3 hP hq) rfl (wz_3_6 hP hq) ?_
    rw [(show (D_X10_add q s a1) = (up (up (up (up (up s (q + 4) (s (q + 3) 3).toNatClampNeg a1) (q + 3) 3 ((s (q + 3) 3) + 1)) (q + 3) 4 ((s (q + 3) 4) ||| (1 <<< (a1 &&& 31)))) (q + 3) 5 ((s (q + 3) 5) ||| (D_X6_needed (up (up (up s (q + 4) (s (q + 3) 3).toNatClampNeg a1) (q + 3) 3 ((s (q + 3) 3) + 1)) (q + 3) 4 ((s (q + 3) 4) ||| (1 <<< (a1 &&& 31)))) a1))) (q + 3) 6 ((s (q + 3) 6) ||| (D_X6_defined (up (up (up (up s (q + 4) (s (q + 3) 3).toNatClampNeg a1) (q + 3) 3 ((s (q + 3) 3) + 1)) (q + 3) 4 ((s (q + 3) 4) ||| (1 <<< (a1 &&& 31)))) (q + 3) 5 ((s (q + 3) 5) ||| (D_X6_needed (up (up (up s (q + 4) (s (q + 3) 3).toNatClampNeg a1) (q + 3) 3 ((s (q + 3) 3) + 1)) (q + 3) 4 ((s (q + 3) 4) ||| (1 <<< (a1 &&& 31)))) a1))) a1))) from ((if_pos c0).trans rfl))]
    exact rx_rv rfl
  · refine rx_icF rfl (bf c0) rfl ?_
    rw [(show (D_X10_add q s a1) = s from ((if_neg c0).trans rfl))]
    exact rx_rv rfl
theorem rc_X10_add (hP : WOK b w H0) {q : Nat} (hq : q = 38 ∨ q = 60) {s : Sg} {a1 : Int32} (hN : NN s) : Rc sc 2 157 [.ref (b + (q + 3)), .int a1] (wd b w wl H0 s, kn) none (wd b w wl H0 (D_X10_add q s a1), kn) := rx_mc (m_X10_add hP hq hN) rfl rfl (Nat.ble_eq_true_of_le (Nat.le_refl _)) (Nat.ble_eq_true_of_le (Nat.le_refl _))
theorem nn_X10_add {q : Nat} (hq : q = 38 ∨ q = 60) {s : Sg} {a1 : Int32} (hN : NN s) : NN (D_X10_add q s a1) := by
  by_cases c0 : (s (q + 3) 3) < 10
  · rw [show (D_X10_add q s a1) = (up (up (up (up (up s (q + 4) (s (q + 3) 3).toNatClampNeg a1) (q + 3) 3 ((s (q + 3) 3) + 1)) (q + 3) 4 ((s (q + 3) 4) ||| (1 <<< (a1 &&& 31)))) (q + 3) 5 ((s (q + 3) 5) ||| (D_X6_needed (up (up (up s (q + 4) (s (q + 3) 3).toNatClampNeg a1) (q + 3) 3 ((s (q + 3) 3) + 1)) (q + 3) 4 ((s (q + 3) 4) ||| (1 <<< (a1 &&& 31)))) a1))) (q + 3) 6 ((s (q + 3) 6) ||| (D_X6_defined (up (up (up (up s (q + 4) (s (q + 3) 3).toNatClampNeg a1) (q + 3) 3 ((s (q + 3) 3) + 1)) (q + 3) 4 ((s (q + 3) 4) ||| (1 <<< (a1 &&& 31)))) (q + 3) 5 ((s (q + 3) 5) ||| (D_X6_needed (up (up (up s (q + 4) (s (q + 3) 3).toNatClampNeg a1) (q + 3) 3 ((s (q + 3) 3) + 1)) (q + 3) 4 ((s (q + 3) 4) ||| (1 <<< (a1 &&& 31)))) a1))) a1))) from ((if_pos c0).trans rfl)]
    exact (nn_f (by rcases hq with rfl | rfl <;> rfl) (nn_f (by rcases hq with rfl | rfl <;> rfl) (nn_f (by rcases hq with rfl | rfl <;> rfl) (nn_c (nn_inc (rg_d (hN (q + 3) 3 (by first | rfl | (rcases hq with rfl | rfl <;> rfl))) c0 (m := 10) (n := 10) rfl).1 (lt_lt c0) (by decide)) (nn_0 (by rcases hq with rfl | rfl <;> rfl) hN)))))
  · rw [show (D_X10_add q s a1) = s from ((if_neg c0).trans rfl)]
    exact hN
theorem fw_X10_add {q : Nat} {s : Sg} {a1 : Int32} {k j : Nat} (l3f3 : k ≠ q + 3 ∨ j ≠ 3) (l3f4 : k ≠ q + 3 ∨ j ≠ 4) (l3f5 : k ≠ q + 3 ∨ j ≠ 5) (l3f6 : k ≠ q + 3 ∨ j ≠ 6) (l4 : k ≠ q + 4) : (D_X10_add q s a1) k j = s k j := by
  by_cases c0 : (s (q + 3) 3) < 10
  · rw [show (D_X10_add q s a1) = (up (up (up (up (up s (q + 4) (s (q + 3) 3).toNatClampNeg a1) (q + 3) 3 ((s (q + 3) 3) + 1)) (q + 3) 4 ((s (q + 3) 4) ||| (1 <<< (a1 &&& 31)))) (q + 3) 5 ((s (q + 3) 5) ||| (D_X6_needed (up (up (up s (q + 4) (s (q + 3) 3).toNatClampNeg a1) (q + 3) 3 ((s (q + 3) 3) + 1)) (q + 3) 4 ((s (q + 3) 4) ||| (1 <<< (a1 &&& 31)))) a1))) (q + 3) 6 ((s (q + 3) 6) ||| (D_X6_defined (up (up (up (up s (q + 4) (s (q + 3) 3).toNatClampNeg a1) (q + 3) 3 ((s (q + 3) 3) + 1)) (q + 3) 4 ((s (q + 3) 4) ||| (1 <<< (a1 &&& 31)))) (q + 3) 5 ((s (q + 3) 5) ||| (D_X6_needed (up (up (up s (q + 4) (s (q + 3) 3).toNatClampNeg a1) (q + 3) 3 ((s (q + 3) 3) + 1)) (q + 3) 4 ((s (q + 3) 4) ||| (1 <<< (a1 &&& 31)))) a1))) a1))) from ((if_pos c0).trans rfl)]
    first | done | exact ((up_f l3f6).trans ((up_f l3f5).trans ((up_f l3f4).trans ((up_f l3f3).trans ((up_a l4).trans rfl)))))
  · rw [show (D_X10_add q s a1) = s from ((if_neg c0).trans rfl)]
    first | done | exact rfl
-- LinkHarbour$Taking.takeAll
def fr_X10_takeAll_2 (b w : Nat) (q : Nat) (a1 : Int32) (x2 : Int32) : EF := (2, [(0, .ref (b + (q + 3))), (1, .int a1), (2, .int x2)], [])
def fe_X10_takeAll_2 (b w : Nat) (q : Nat) (a1 : Int32) (x2 : Int32) : EF := (27, [], [])
noncomputable def B_X10_takeAll_2 (q : Nat) (a1 : Int32) (x2 : Int32) (s : Sg) : Bool × (Int32 × Sg) := (if 10 ≤ x2 then (false, (x2, s)) else (if (D_X11_hasBit a1 x2) = 0 then (true, ((x2 + 1), s)) else (true, ((x2 + 1), (D_X10_add q s x2)))))
theorem b_X10_takeAll_2 (hP : WOK b w H0) {q : Nat} (hq : q = 38 ∨ q = 60) {s : Sg} {a1 : Int32} {x2 : Int32} (o : Option Value) (h' : EH) (hN : NN s) (hv : 0 ≤ x2.toInt) (hc : ∀ (t2 : Int32) (ts : Sg), (B_X10_takeAll_2 q a1 x2 s) = (true, (t2, ts)) → x2.toInt < 2147483647 → t2 = x2 + 1 → Rx sc g_X10_takeAll 2 (fr_X10_takeAll_2 b w q a1 t2) (wd b w wl H0 ts, kn) o h') (he : ∀ (t2 : Int32) (ts : Sg), (B_X10_takeAll_2 q a1 x2 s) = (false, (t2, ts)) → Rx sc g_X10_takeAll 2 (fe_X10_takeAll_2 b w q a1 t2) (wd b w wl H0 ts, kn) o h') : Rx sc g_X10_takeAll 2 (fr_X10_takeAll_2 b w q a1 x2) (wd b w wl H0 s, kn) o h' := by
  show Rx sc g_X10_takeAll 2 (2, [(0, .ref (b + (q + 3))), (1, .int a1), (2, .int x2)], []) (wd b w wl H0 s, kn) o h'
  refine rx_k 2 (5, [(0, .ref (b + (q + 3))), (1, .int a1), (2, .int x2)], [.int 10, .int x2]) (fun _ _ => rfl) ?_
  by_cases c0 : 10 ≤ x2
  · refine rx_icT rfl (bt c0) ?_
    exact rx_lo am_X10_takeAll (lo := []) (fun _ h => absurd h List.not_mem_nil) rfl (he _ _ (show (B_X10_takeAll_2 q a1 x2 s) = (false, (x2, s)) from ((if_pos c0).trans rfl)))
  · refine rx_icF rfl (bf c0) rfl ?_
    refine rx_k 2 (10, [(0, .ref (b + (q + 3))), (1, .int a1), (2, .int x2)], [.int x2, .int a1]) (fun _ _ => rfl) ?_
    refine rx_inv rfl rfl (rc_X11_hasBit) rfl rfl rfl rfl rfl rfl ?_
    by_cases c1 : (D_X11_hasBit a1 x2) = 0
    · refine rx_ifT rfl (bt c1) ?_
      refine rx_k 2 (2, [(2, .int (x2 + 1)), (0, .ref (b + (q + 3))), (1, .int a1)], []) (fun _ _ => rfl) ?_
      refine rx_lo am_X10_takeAll (lo := [(0, .ref (b + (q + 3))), (1, .int a1), (2, .int (x2 + 1))]) (List.forall_mem_cons.mpr ⟨List.mem_of_getElem? (i := 1) rfl, (List.forall_mem_cons.mpr ⟨List.mem_of_getElem? (i := 2) rfl, (List.forall_mem_cons.mpr ⟨List.mem_of_getElem? (i := 0) rfl, (fun _ h => absurd h List.not_mem_nil)⟩)⟩)⟩) rfl (hc _ _ (show (B_X10_takeAll_2 q a1 x2 s) = (true, ((x2 + 1), s)) from ((if_neg c0).trans ((if_pos c1).trans rfl))) (lt_nle c0) rfl)
    · refine rx_ifF rfl (bf c1) rfl ?_
      refine rx_k 2 (18, [(0, .ref (b + (q + 3))), (1, .int a1), (2, .int x2)], [.int x2, .ref (b + (q + 3))]) (fun _ _ => rfl) ?_
      refine rx_inv rfl rfl (rc_X10_add hP hq hN) rfl rfl rfl (q_recv (wl_3 hP hq)) rfl rfl ?_
      refine rx_k 2 (2, [(2, .int (x2 + 1)), (0, .ref (b + (q + 3))), (1, .int a1)], []) (fun _ _ => rfl) ?_
      refine rx_lo am_X10_takeAll (lo := [(0, .ref (b + (q + 3))), (1, .int a1), (2, .int (x2 + 1))]) (List.forall_mem_cons.mpr ⟨List.mem_of_getElem? (i := 1) rfl, (List.forall_mem_cons.mpr ⟨List.mem_of_getElem? (i := 2) rfl, (List.forall_mem_cons.mpr ⟨List.mem_of_getElem? (i := 0) rfl, (fun _ h => absurd h List.not_mem_nil)⟩)⟩)⟩) rfl (hc _ _ (show (B_X10_takeAll_2 q a1 x2 s) = (true, ((x2 + 1), (D_X10_add q s x2))) from ((if_neg c0).trans ((if_neg c1).trans rfl))) (lt_nle c0) rfl)
theorem nb_X10_takeAll_2 {q : Nat} (hq : q = 38 ∨ q = 60) {a1 : Int32} {x2 : Int32} {s : Sg} (hN : NN s) : ∃ (f : Bool) (t2 : Int32) (ts : Sg), (B_X10_takeAll_2 q a1 x2 s) = (f, (t2, ts)) ∧ NN ts := by
  by_cases c0 : 10 ≤ x2
  · exact ⟨_, _, _, (show (B_X10_takeAll_2 q a1 x2 s) = (false, (x2, s)) from ((if_pos c0).trans rfl)), hN⟩
  · by_cases c1 : (D_X11_hasBit a1 x2) = 0
    · exact ⟨_, _, _, (show (B_X10_takeAll_2 q a1 x2 s) = (true, ((x2 + 1), s)) from ((if_neg c0).trans ((if_pos c1).trans rfl))), hN⟩
    · exact ⟨_, _, _, (show (B_X10_takeAll_2 q a1 x2 s) = (true, ((x2 + 1), (D_X10_add q s x2))) from ((if_neg c0).trans ((if_neg c1).trans rfl))), (nn_X10_add hq hN)⟩
noncomputable def R_X10_takeAll_27 (q : Nat) (s : Sg) : Sg := s
theorem r_X10_takeAll_27 (hP : WOK b w H0) {q : Nat} (hq : q = 38 ∨ q = 60) {s : Sg} (hN : NN s) : Rx sc g_X10_takeAll 2 ((27, [], [])) (wd b w wl H0 s, kn) none (wd b w wl H0 (R_X10_takeAll_27 q s), kn) := by
  show Rx sc g_X10_takeAll 2 (27, [], []) (wd b w wl H0 s, kn) none (wd b w wl H0 (R_X10_takeAll_27 q s), kn)
  rw [(show (R_X10_takeAll_27 q s) = s from rfl)]
  exact rx_rv rfl
theorem nr_X10_takeAll_27 {q : Nat} (hq : q = 38 ∨ q = 60) {s : Sg} (hN : NN s) : NN ((R_X10_takeAll_27 q s)) := by
  rw [show (R_X10_takeAll_27 q s) = s from rfl]
  exact hN
noncomputable def D_X10_takeAll (q : Nat) (s : Sg) (a1 : Int32) : Sg := (R_X10_takeAll_27 q ((itr (uc2 (B_X10_takeAll_2 q a1)) BIG (0, s)).2))
theorem m_X10_takeAll (hP : WOK b w H0) {q : Nat} (hq : q = 38 ∨ q = 60) {s : Sg} {a1 : Int32} (hN : NN s) : Rx sc g_X10_takeAll 2 ((0, [(0, .ref (b + (q + 3))), (1, .int a1)], [])) (wd b w wl H0 s, kn) none (wd b w wl H0 (D_X10_takeAll q s a1), kn) := by
  show Rx sc g_X10_takeAll 2 (0, [(0, .ref (b + (q + 3))), (1, .int a1)], []) (wd b w wl H0 s, kn) none (wd b w wl H0 (D_X10_takeAll q s a1), kn)
  refine rx_k 2 (2, [(2, .int 0), (0, .ref (b + (q + 3))), (1, .int a1)], []) (fun _ _ => rfl) ?_
  refine rx_lo am_X10_takeAll (lo := [(0, .ref (b + (q + 3))), (1, .int a1), (2, .int 0)]) (List.forall_mem_cons.mpr ⟨List.mem_of_getElem? (i := 1) rfl, (List.forall_mem_cons.mpr ⟨List.mem_of_getElem? (i := 2) rfl, (List.forall_mem_cons.mpr ⟨List.mem_of_getElem? (i := 0) rfl, (fun _ h => absurd h List.not_mem_nil)⟩)⟩)⟩) rfl ?_
  refine rx_loop2s (B := B_X10_takeAll_2 q a1) (fr := (fr_X10_takeAll_2 b w q a1)) (E := (fe_X10_takeAll_2 b w q a1)) (I := fun z2 zs => NN zs) (fun z2 zs oo hh9 hI9 hv9 hc9 he9 => b_X10_takeAll_2 hP hq oo hh9 hI9 hv9 hc9 he9) (fun z2 zs hz => nb_X10_takeAll_2 hq hz) BIG 0 s _ _ hN (by decide : (0 : Int) ≤ (0 : Int32).toInt) (le_enough (by decide : (0 : Int) ≤ (0 : Int32).toInt)) ?_
  rw [(show (D_X10_takeAll q s a1) = (R_X10_takeAll_27 q ((itr (uc2 (B_X10_takeAll_2 q a1)) BIG (0, s)).2)) from rfl)]
  exact r_X10_takeAll_27 hP hq (itr_inv2 (B := B_X10_takeAll_2 q a1) (I := fun z2 zs => NN zs) (fun z2 zs hz => nb_X10_takeAll_2 hq hz) BIG 0 s hN)
theorem rc_X10_takeAll (hP : WOK b w H0) {q : Nat} (hq : q = 38 ∨ q = 60) {s : Sg} {a1 : Int32} (hN : NN s) : Rc sc 3 154 [.ref (b + (q + 3)), .int a1] (wd b w wl H0 s, kn) none (wd b w wl H0 (D_X10_takeAll q s a1), kn) := rx_mc (m_X10_takeAll hP hq hN) rfl rfl (Nat.ble_eq_true_of_le (Nat.le_refl _)) (Nat.ble_eq_true_of_le (Nat.le_refl _))
theorem nn_X10_takeAll {q : Nat} (hq : q = 38 ∨ q = 60) {s : Sg} {a1 : Int32} (hN : NN s) : NN (D_X10_takeAll q s a1) := by
  rw [show (D_X10_takeAll q s a1) = (R_X10_takeAll_27 q ((itr (uc2 (B_X10_takeAll_2 q a1)) BIG (0, s)).2)) from rfl]
  exact (nr_X10_takeAll_27 hq (itr_inv2 (B := B_X10_takeAll_2 q a1) (I := fun z2 zs => NN zs) (fun z2 zs hz => nb_X10_takeAll_2 hq hz) BIG 0 s hN))
theorem fwb_X10_takeAll_2 {q : Nat} {a1 : Int32} {x2 : Int32} {s : Sg} {k j : Nat} (l3f3 : k ≠ q + 3 ∨ j ≠ 3) (l3f4 : k ≠ q + 3 ∨ j ≠ 4) (l3f5 : k ≠ q + 3 ∨ j ≠ 5) (l3f6 : k ≠ q + 3 ∨ j ≠ 6) (l4 : k ≠ q + 4) : ∃ (f : Bool) (t2 : Int32) (ts : Sg), (B_X10_takeAll_2 q a1 x2 s) = (f, (t2, ts)) ∧ ts k j = s k j := by
  by_cases c0 : 10 ≤ x2
  · exact ⟨_, _, _, (show (B_X10_takeAll_2 q a1 x2 s) = (false, (x2, s)) from ((if_pos c0).trans rfl)), rfl⟩
  · by_cases c1 : (D_X11_hasBit a1 x2) = 0
    · exact ⟨_, _, _, (show (B_X10_takeAll_2 q a1 x2 s) = (true, ((x2 + 1), s)) from ((if_neg c0).trans ((if_pos c1).trans rfl))), rfl⟩
    · exact ⟨_, _, _, (show (B_X10_takeAll_2 q a1 x2 s) = (true, ((x2 + 1), (D_X10_add q s x2))) from ((if_neg c0).trans ((if_neg c1).trans rfl))), ((fw_X10_add l3f3 l3f4 l3f5 l3f6 l4).trans rfl)⟩
theorem fwr_X10_takeAll_27 {q : Nat} {s : Sg} {k j : Nat} (l3f3 : k ≠ q + 3 ∨ j ≠ 3) (l3f4 : k ≠ q + 3 ∨ j ≠ 4) (l3f5 : k ≠ q + 3 ∨ j ≠ 5) (l3f6 : k ≠ q + 3 ∨ j ≠ 6) (l4 : k ≠ q + 4) : (R_X10_takeAll_27 q s) k j = s k j := by
  rw [show (R_X10_takeAll_27 q s) = s from rfl]
  first | done | exact rfl
theorem fw_X10_takeAll {q : Nat} {s : Sg} {a1 : Int32} {k j : Nat} (l3f3 : k ≠ q + 3 ∨ j ≠ 3) (l3f4 : k ≠ q + 3 ∨ j ≠ 4) (l3f5 : k ≠ q + 3 ∨ j ≠ 5) (l3f6 : k ≠ q + 3 ∨ j ≠ 6) (l4 : k ≠ q + 4) : (D_X10_takeAll q s a1) k j = s k j := by
  rw [show (D_X10_takeAll q s a1) = (R_X10_takeAll_27 q ((itr (uc2 (B_X10_takeAll_2 q a1)) BIG (0, s)).2)) from rfl]
  first | done | exact ((fwr_X10_takeAll_27 l3f3 l3f4 l3f5 l3f6 l4).trans ((itr_inv2 (B := B_X10_takeAll_2 q a1) (I := fun z2 zs => zs k j = s k j) (fun z2 zs hz => exq2 (fwb_X10_takeAll_2 l3f3 l3f4 l3f5 l3f6 l4) hz) BIG 0 s rfl).trans rfl))
-- LinkHarbour$ObjectTable.offered
noncomputable def D_X6_offered (s : Sg) (a1 : Int32) : Int32 := (if a1 < 0 then 0 else (if 10 ≤ a1 then 0 else (s 3 a1.toNatClampNeg)))
theorem m_X6_offered (hP : WOK b w H0) {s : Sg} {a1 : Int32} : Rx sc g_X6_offered 0 ((0, [(0, .ref (b + 1)), (1, .int a1)], [])) (wd b w wl H0 s, kn) (some (.int (D_X6_offered s a1))) (wd b w wl H0 s, kn) := by
  show Rx sc g_X6_offered 0 (0, [(0, .ref (b + 1)), (1, .int a1)], []) (wd b w wl H0 s, kn) (some (.int (D_X6_offered s a1))) (wd b w wl H0 s, kn)
  refine rx_k 1 (1, [(0, .ref (b + 1)), (1, .int a1)], [.int a1]) (fun _ _ => rfl) ?_
  by_cases c0 : a1 < 0
  · refine rx_ifT rfl (bt c0) ?_
    refine rx_k 1 (20, [(0, .ref (b + 1)), (1, .int a1)], [.int 0]) (fun _ _ => rfl) ?_
    rw [(show (D_X6_offered s a1) = 0 from ((if_pos c0).trans rfl))]
    exact rx_ri rfl
  · refine rx_ifF rfl (bf c0) rfl ?_
    refine rx_k 2 (7, [(0, .ref (b + 1)), (1, .int a1)], [.int 10, .int a1]) (fun _ _ => rfl) ?_
    by_cases c1 : 10 ≤ a1
    · refine rx_icT rfl (bt c1) ?_
      refine rx_k 1 (20, [(0, .ref (b + 1)), (1, .int a1)], [.int 0]) (fun _ _ => rfl) ?_
      rw [(show (D_X6_offered s a1) = 0 from ((if_neg c0).trans ((if_pos c1).trans rfl)))]
      exact rx_ri rfl
    · refine rx_icF rfl (bf c1) rfl ?_
      refine rx_k 1 (11, [(0, .ref (b + 1)), (1, .int a1)], [.ref (b + 1)]) (fun _ _ => rfl) ?_
      refine rx_getf rfl rfl (wg_1 hP) rfl ?_
      refine rx_k 1 (15, [(0, .ref (b + 1)), (1, .int a1)], [.int a1, .ref (b + 3)]) (fun _ _ => rfl) ?_
      refine rx_ild rfl rfl (wg_3 hP) (ar_at (rg_c (i_ge c0 rfl) c1 (m := 10) (n := 10) rfl)) ?_
      refine rx_k 1 (20, [(0, .ref (b + 1)), (1, .int a1)], [.int (s 3 a1.toNatClampNeg)]) (fun _ _ => rfl) ?_
      rw [(show (D_X6_offered s a1) = (s 3 a1.toNatClampNeg) from ((if_neg c0).trans ((if_neg c1).trans rfl)))]
      exact rx_ri rfl
theorem rc_X6_offered (hP : WOK b w H0) {s : Sg} {a1 : Int32} : Rc sc 1 92 [.ref (b + 1), .int a1] (wd b w wl H0 s, kn) (some (.int (D_X6_offered s a1))) (wd b w wl H0 s, kn) := rx_mc (m_X6_offered hP) rfl rfl (Nat.ble_eq_true_of_le (Nat.le_refl _)) (Nat.ble_eq_true_of_le (Nat.le_refl _))
-- LinkHarbour$Taking.takeWanted
def fr_X10_takeWanted_2 (b w : Nat) (q : Nat) (a1 : Int32) (x2 : Int32) : EF := (2, [(0, .ref (b + (q + 3))), (1, .int a1), (2, .int x2)], [])
def fe_X10_takeWanted_2 (b w : Nat) (q : Nat) (a1 : Int32) (x2 : Int32) : EF := (57, [], [])
noncomputable def B_X10_takeWanted_2 (q : Nat) (a1 : Int32) (x2 : Int32) (s : Sg) : Bool × (Int32 × Sg) := (if 10 ≤ x2 then (false, (x2, s)) else (if (D_X11_hasBit (a1 &&& ((s (q + 3) 4) ^^^ (-1))) x2) = 0 then (true, ((x2 + 1), s)) else (if (((D_X6_offered s x2) &&& (s (q + 3) 5)) &&& ((s (q + 3) 6) ^^^ (-1))) = 0 then (true, ((x2 + 1), s)) else (true, ((x2 + 1), (D_X10_add q s x2))))))
theorem b_X10_takeWanted_2 (hP : WOK b w H0) {q : Nat} (hq : q = 38 ∨ q = 60) {s : Sg} {a1 : Int32} {x2 : Int32} (o : Option Value) (h' : EH) (hN : NN s) (hv : 0 ≤ x2.toInt) (hc : ∀ (t2 : Int32) (ts : Sg), (B_X10_takeWanted_2 q a1 x2 s) = (true, (t2, ts)) → x2.toInt < 2147483647 → t2 = x2 + 1 → Rx sc g_X10_takeWanted 2 (fr_X10_takeWanted_2 b w q a1 t2) (wd b w wl H0 ts, kn) o h') (he : ∀ (t2 : Int32) (ts : Sg), (B_X10_takeWanted_2 q a1 x2 s) = (false, (t2, ts)) → Rx sc g_X10_takeWanted 2 (fe_X10_takeWanted_2 b w q a1 t2) (wd b w wl H0 ts, kn) o h') : Rx sc g_X10_takeWanted 2 (fr_X10_takeWanted_2 b w q a1 x2) (wd b w wl H0 s, kn) o h' := by
  show Rx sc g_X10_takeWanted 2 (2, [(0, .ref (b + (q + 3))), (1, .int a1), (2, .int x2)], []) (wd b w wl H0 s, kn) o h'
  refine rx_k 2 (5, [(0, .ref (b + (q + 3))), (1, .int a1), (2, .int x2)], [.int 10, .int x2]) (fun _ _ => rfl) ?_
  by_cases c0 : 10 ≤ x2
  · refine rx_icT rfl (bt c0) ?_
    exact rx_lo am_X10_takeWanted (lo := []) (fun _ h => absurd h List.not_mem_nil) rfl (he _ _ (show (B_X10_takeWanted_2 q a1 x2 s) = (false, (x2, s)) from ((if_pos c0).trans rfl)))
  · refine rx_icF rfl (bf c0) rfl ?_
    refine rx_k 2 (10, [(0, .ref (b + (q + 3))), (1, .int a1), (2, .int x2)], [.ref (b + (q + 3)), .int a1]) (fun _ _ => rfl) ?_
    refine rx_getf rfl rfl (wl_3 hP hq) rfl ?_
    refine rx_k 4 (17, [(0, .ref (b + (q + 3))), (1, .int a1), (2, .int x2)], [.int x2, .int (a1 &&& ((s (q + 3) 4) ^^^ (-1)))]) (fun _ _ => rfl) ?_
    refine rx_inv rfl rfl (rc_X11_hasBit) rfl rfl rfl rfl rfl rfl ?_
    by_cases c1 : (D_X11_hasBit (a1 &&& ((s (q + 3) 4) ^^^ (-1))) x2) = 0
    · refine rx_ifT rfl (bt c1) ?_
      refine rx_k 2 (2, [(2, .int (x2 + 1)), (0, .ref (b + (q + 3))), (1, .int a1)], []) (fun _ _ => rfl) ?_
      refine rx_lo am_X10_takeWanted (lo := [(0, .ref (b + (q + 3))), (1, .int a1), (2, .int (x2 + 1))]) (List.forall_mem_cons.mpr ⟨List.mem_of_getElem? (i := 1) rfl, (List.forall_mem_cons.mpr ⟨List.mem_of_getElem? (i := 2) rfl, (List.forall_mem_cons.mpr ⟨List.mem_of_getElem? (i := 0) rfl, (fun _ h => absurd h List.not_mem_nil)⟩)⟩)⟩) rfl (hc _ _ (show (B_X10_takeWanted_2 q a1 x2 s) = (true, ((x2 + 1), s)) from ((if_neg c0).trans ((if_pos c1).trans rfl))) (lt_nle c0) rfl)
    · refine rx_ifF rfl (bf c1) rfl ?_
      refine rx_k 1 (24, [(0, .ref (b + (q + 3))), (1, .int a1), (2, .int x2)], [.ref (b + (q + 3))]) (fun _ _ => rfl) ?_
      refine rx_getf rfl rfl (wl_3 hP hq) rfl ?_
      refine rx_k 1 (28, [(0, .ref (b + (q + 3))), (1, .int a1), (2, .int x2)], [.int x2, .ref (b + 1)]) (fun _ _ => rfl) ?_
      refine rx_inv rfl rfl (rc_X6_offered hP) rfl rfl rfl (q_recv (wg_1 hP)) rfl rfl ?_
      refine rx_k 1 (32, [(0, .ref (b + (q + 3))), (1, .int a1), (2, .int x2)], [.ref (b + (q + 3)), .int (D_X6_offered s x2)]) (fun _ _ => rfl) ?_
      refine rx_getf rfl rfl (wl_3 hP hq) rfl ?_
      refine rx_k 2 (37, [(0, .ref (b + (q + 3))), (1, .int a1), (2, .int x2)], [.ref (b + (q + 3)), .int ((D_X6_offered s x2) &&& (s (q + 3) 5))]) (fun _ _ => rfl) ?_
      refine rx_getf rfl rfl (wl_3 hP hq) rfl ?_
      refine rx_k 3 (43, [(0, .ref (b + (q + 3))), (1, .int a1), (2, .int x2)], [.int (((D_X6_offered s x2) &&& (s (q + 3) 5)) &&& ((s (q + 3) 6) ^^^ (-1)))]) (fun _ _ => rfl) ?_
      by_cases c2 : (((D_X6_offered s x2) &&& (s (q + 3) 5)) &&& ((s (q + 3) 6) ^^^ (-1))) = 0
      · refine rx_ifT rfl (bt c2) ?_
        refine rx_k 2 (2, [(2, .int (x2 + 1)), (0, .ref (b + (q + 3))), (1, .int a1)], []) (fun _ _ => rfl) ?_
        refine rx_lo am_X10_takeWanted (lo := [(0, .ref (b + (q + 3))), (1, .int a1), (2, .int (x2 + 1))]) (List.forall_mem_cons.mpr ⟨List.mem_of_getElem? (i := 1) rfl, (List.forall_mem_cons.mpr ⟨List.mem_of_getElem? (i := 2) rfl, (List.forall_mem_cons.mpr ⟨List.mem_of_getElem? (i := 0) rfl, (fun _ h => absurd h List.not_mem_nil)⟩)⟩)⟩) rfl (hc _ _ (show (B_X10_takeWanted_2 q a1 x2 s) = (true, ((x2 + 1), s)) from ((if_neg c0).trans ((if_neg c1).trans ((if_pos c2).trans rfl)))) (lt_nle c0) rfl)
      · refine rx_ifF rfl (bf c2) rfl ?_
        refine rx_k 2 (48, [(0, .ref (b + (q + 3))), (1, .int a1), (2, .int x2)], [.int x2, .ref (b + (q + 3))]) (fun _ _ => rfl) ?_
        refine rx_inv rfl rfl (rc_X10_add hP hq hN) rfl rfl rfl (q_recv (wl_3 hP hq)) rfl rfl ?_
        refine rx_k 2 (2, [(2, .int (x2 + 1)), (0, .ref (b + (q + 3))), (1, .int a1)], []) (fun _ _ => rfl) ?_
        refine rx_lo am_X10_takeWanted (lo := [(0, .ref (b + (q + 3))), (1, .int a1), (2, .int (x2 + 1))]) (List.forall_mem_cons.mpr ⟨List.mem_of_getElem? (i := 1) rfl, (List.forall_mem_cons.mpr ⟨List.mem_of_getElem? (i := 2) rfl, (List.forall_mem_cons.mpr ⟨List.mem_of_getElem? (i := 0) rfl, (fun _ h => absurd h List.not_mem_nil)⟩)⟩)⟩) rfl (hc _ _ (show (B_X10_takeWanted_2 q a1 x2 s) = (true, ((x2 + 1), (D_X10_add q s x2))) from ((if_neg c0).trans ((if_neg c1).trans ((if_neg c2).trans rfl)))) (lt_nle c0) rfl)
theorem nb_X10_takeWanted_2 {q : Nat} (hq : q = 38 ∨ q = 60) {a1 : Int32} {x2 : Int32} {s : Sg} (hN : NN s) : ∃ (f : Bool) (t2 : Int32) (ts : Sg), (B_X10_takeWanted_2 q a1 x2 s) = (f, (t2, ts)) ∧ NN ts := by
  by_cases c0 : 10 ≤ x2
  · exact ⟨_, _, _, (show (B_X10_takeWanted_2 q a1 x2 s) = (false, (x2, s)) from ((if_pos c0).trans rfl)), hN⟩
  · by_cases c1 : (D_X11_hasBit (a1 &&& ((s (q + 3) 4) ^^^ (-1))) x2) = 0
    · exact ⟨_, _, _, (show (B_X10_takeWanted_2 q a1 x2 s) = (true, ((x2 + 1), s)) from ((if_neg c0).trans ((if_pos c1).trans rfl))), hN⟩
    · by_cases c2 : (((D_X6_offered s x2) &&& (s (q + 3) 5)) &&& ((s (q + 3) 6) ^^^ (-1))) = 0
      · exact ⟨_, _, _, (show (B_X10_takeWanted_2 q a1 x2 s) = (true, ((x2 + 1), s)) from ((if_neg c0).trans ((if_neg c1).trans ((if_pos c2).trans rfl)))), hN⟩
      · exact ⟨_, _, _, (show (B_X10_takeWanted_2 q a1 x2 s) = (true, ((x2 + 1), (D_X10_add q s x2))) from ((if_neg c0).trans ((if_neg c1).trans ((if_neg c2).trans rfl)))), (nn_X10_add hq hN)⟩
noncomputable def R_X10_takeWanted_57 (q : Nat) (s : Sg) : Sg := s
theorem r_X10_takeWanted_57 (hP : WOK b w H0) {q : Nat} (hq : q = 38 ∨ q = 60) {s : Sg} (hN : NN s) : Rx sc g_X10_takeWanted 2 ((57, [], [])) (wd b w wl H0 s, kn) none (wd b w wl H0 (R_X10_takeWanted_57 q s), kn) := by
  show Rx sc g_X10_takeWanted 2 (57, [], []) (wd b w wl H0 s, kn) none (wd b w wl H0 (R_X10_takeWanted_57 q s), kn)
  rw [(show (R_X10_takeWanted_57 q s) = s from rfl)]
  exact rx_rv rfl
theorem nr_X10_takeWanted_57 {q : Nat} (hq : q = 38 ∨ q = 60) {s : Sg} (hN : NN s) : NN ((R_X10_takeWanted_57 q s)) := by
  rw [show (R_X10_takeWanted_57 q s) = s from rfl]
  exact hN
noncomputable def D_X10_takeWanted (q : Nat) (s : Sg) (a1 : Int32) : Sg := (R_X10_takeWanted_57 q ((itr (uc2 (B_X10_takeWanted_2 q a1)) BIG (0, s)).2))
theorem m_X10_takeWanted (hP : WOK b w H0) {q : Nat} (hq : q = 38 ∨ q = 60) {s : Sg} {a1 : Int32} (hN : NN s) : Rx sc g_X10_takeWanted 2 ((0, [(0, .ref (b + (q + 3))), (1, .int a1)], [])) (wd b w wl H0 s, kn) none (wd b w wl H0 (D_X10_takeWanted q s a1), kn) := by
  show Rx sc g_X10_takeWanted 2 (0, [(0, .ref (b + (q + 3))), (1, .int a1)], []) (wd b w wl H0 s, kn) none (wd b w wl H0 (D_X10_takeWanted q s a1), kn)
  refine rx_k 2 (2, [(2, .int 0), (0, .ref (b + (q + 3))), (1, .int a1)], []) (fun _ _ => rfl) ?_
  refine rx_lo am_X10_takeWanted (lo := [(0, .ref (b + (q + 3))), (1, .int a1), (2, .int 0)]) (List.forall_mem_cons.mpr ⟨List.mem_of_getElem? (i := 1) rfl, (List.forall_mem_cons.mpr ⟨List.mem_of_getElem? (i := 2) rfl, (List.forall_mem_cons.mpr ⟨List.mem_of_getElem? (i := 0) rfl, (fun _ h => absurd h List.not_mem_nil)⟩)⟩)⟩) rfl ?_
  refine rx_loop2s (B := B_X10_takeWanted_2 q a1) (fr := (fr_X10_takeWanted_2 b w q a1)) (E := (fe_X10_takeWanted_2 b w q a1)) (I := fun z2 zs => NN zs) (fun z2 zs oo hh9 hI9 hv9 hc9 he9 => b_X10_takeWanted_2 hP hq oo hh9 hI9 hv9 hc9 he9) (fun z2 zs hz => nb_X10_takeWanted_2 hq hz) BIG 0 s _ _ hN (by decide : (0 : Int) ≤ (0 : Int32).toInt) (le_enough (by decide : (0 : Int) ≤ (0 : Int32).toInt)) ?_
  rw [(show (D_X10_takeWanted q s a1) = (R_X10_takeWanted_57 q ((itr (uc2 (B_X10_takeWanted_2 q a1)) BIG (0, s)).2)) from rfl)]
  exact r_X10_takeWanted_57 hP hq (itr_inv2 (B := B_X10_takeWanted_2 q a1) (I := fun z2 zs => NN zs) (fun z2 zs hz => nb_X10_takeWanted_2 hq hz) BIG 0 s hN)
theorem rc_X10_takeWanted (hP : WOK b w H0) {q : Nat} (hq : q = 38 ∨ q = 60) {s : Sg} {a1 : Int32} (hN : NN s) : Rc sc 3 156 [.ref (b + (q + 3)), .int a1] (wd b w wl H0 s, kn) none (wd b w wl H0 (D_X10_takeWanted q s a1), kn) := rx_mc (m_X10_takeWanted hP hq hN) rfl rfl (Nat.ble_eq_true_of_le (Nat.le_refl _)) (Nat.ble_eq_true_of_le (Nat.le_refl _))
theorem nn_X10_takeWanted {q : Nat} (hq : q = 38 ∨ q = 60) {s : Sg} {a1 : Int32} (hN : NN s) : NN (D_X10_takeWanted q s a1) := by
  rw [show (D_X10_takeWanted q s a1) = (R_X10_takeWanted_57 q ((itr (uc2 (B_X10_takeWanted_2 q a1)) BIG (0, s)).2)) from rfl]
  exact (nr_X10_takeWanted_57 hq (itr_inv2 (B := B_X10_takeWanted_2 q a1) (I := fun z2 zs => NN zs) (fun z2 zs hz => nb_X10_takeWanted_2 hq hz) BIG 0 s hN))
theorem fwb_X10_takeWanted_2 {q : Nat} {a1 : Int32} {x2 : Int32} {s : Sg} {k j : Nat} (l3f3 : k ≠ q + 3 ∨ j ≠ 3) (l3f4 : k ≠ q + 3 ∨ j ≠ 4) (l3f5 : k ≠ q + 3 ∨ j ≠ 5) (l3f6 : k ≠ q + 3 ∨ j ≠ 6) (l4 : k ≠ q + 4) : ∃ (f : Bool) (t2 : Int32) (ts : Sg), (B_X10_takeWanted_2 q a1 x2 s) = (f, (t2, ts)) ∧ ts k j = s k j := by
  by_cases c0 : 10 ≤ x2
  · exact ⟨_, _, _, (show (B_X10_takeWanted_2 q a1 x2 s) = (false, (x2, s)) from ((if_pos c0).trans rfl)), rfl⟩
  · by_cases c1 : (D_X11_hasBit (a1 &&& ((s (q + 3) 4) ^^^ (-1))) x2) = 0
    · exact ⟨_, _, _, (show (B_X10_takeWanted_2 q a1 x2 s) = (true, ((x2 + 1), s)) from ((if_neg c0).trans ((if_pos c1).trans rfl))), rfl⟩
    · by_cases c2 : (((D_X6_offered s x2) &&& (s (q + 3) 5)) &&& ((s (q + 3) 6) ^^^ (-1))) = 0
      · exact ⟨_, _, _, (show (B_X10_takeWanted_2 q a1 x2 s) = (true, ((x2 + 1), s)) from ((if_neg c0).trans ((if_neg c1).trans ((if_pos c2).trans rfl)))), rfl⟩
      · exact ⟨_, _, _, (show (B_X10_takeWanted_2 q a1 x2 s) = (true, ((x2 + 1), (D_X10_add q s x2))) from ((if_neg c0).trans ((if_neg c1).trans ((if_neg c2).trans rfl)))), ((fw_X10_add l3f3 l3f4 l3f5 l3f6 l4).trans rfl)⟩
theorem fwr_X10_takeWanted_57 {q : Nat} {s : Sg} {k j : Nat} (l3f3 : k ≠ q + 3 ∨ j ≠ 3) (l3f4 : k ≠ q + 3 ∨ j ≠ 4) (l3f5 : k ≠ q + 3 ∨ j ≠ 5) (l3f6 : k ≠ q + 3 ∨ j ≠ 6) (l4 : k ≠ q + 4) : (R_X10_takeWanted_57 q s) k j = s k j := by
  rw [show (R_X10_takeWanted_57 q s) = s from rfl]
  first | done | exact rfl
theorem fw_X10_takeWanted {q : Nat} {s : Sg} {a1 : Int32} {k j : Nat} (l3f3 : k ≠ q + 3 ∨ j ≠ 3) (l3f4 : k ≠ q + 3 ∨ j ≠ 4) (l3f5 : k ≠ q + 3 ∨ j ≠ 5) (l3f6 : k ≠ q + 3 ∨ j ≠ 6) (l4 : k ≠ q + 4) : (D_X10_takeWanted q s a1) k j = s k j := by
  rw [show (D_X10_takeWanted q s a1) = (R_X10_takeWanted_57 q ((itr (uc2 (B_X10_takeWanted_2 q a1)) BIG (0, s)).2)) from rfl]
  first | done | exact ((fwr_X10_takeWanted_57 l3f3 l3f4 l3f5 l3f6 l4).trans ((itr_inv2 (B := B_X10_takeWanted_2 q a1) (I := fun z2 zs => zs k j = s k j) (fun z2 zs hz => exq2 (fwb_X10_takeWanted_2 l3f3 l3f4 l3f5 l3f6 l4) hz) BIG 0 s rfl).trans rfl))
-- LinkHarbour$Taking.takeGroup
def fr_X10_takeGroup_12 (b w : Nat) (q : Nat) (a1 : Int32) (a2 : Int32) (a3 : Int32) (x4 : Int32) : EF := (12, [(0, .ref (b + (q + 3))), (1, .int a1), (2, .int a2), (3, .int a3), (4, .int x4)], [])
def fe_X10_takeGroup_12 (b w : Nat) (q : Nat) (a1 : Int32) (a2 : Int32) (a3 : Int32) (x4 : Int32) : EF := (73, [], [])
def fr_X10_takeGroup_28 (b w : Nat) (q : Nat) (a1 : Int32) (a2 : Int32) (a3 : Int32) (a4 : Int32) (a5 : Int32) (x6 : Int32) : EF := (28, [(0, .ref (b + (q + 3))), (1, .int a1), (2, .int a2), (3, .int a3), (4, .int a4), (5, .int a5), (6, .int x6)], [])
def fe_X10_takeGroup_28 (b w : Nat) (q : Nat) (a1 : Int32) (a2 : Int32) (a3 : Int32) (a4 : Int32) (a5 : Int32) (x6 : Int32) : EF := (55, [(0, .ref (b + (q + 3))), (1, .int a1), (2, .int a2), (3, .int a3), (4, .int a4), (5, .int a5)], [])
noncomputable def B_X10_takeGroup_28 (q : Nat) (a1 : Int32) (a2 : Int32) (a3 : Int32) (a4 : Int32) (a5 : Int32) (x6 : Int32) (s : Sg) : Bool × (Int32 × Sg) := (if a3 ≤ x6 then (false, (x6, s)) else (true, ((x6 + 1), (D_X10_takeWanted q s ((D_X2_set s x6) &&& a2)))))
theorem b_X10_takeGroup_28 (hP : WOK b w H0) {q : Nat} (hq : q = 38 ∨ q = 60) {s : Sg} {a1 : Int32} {a2 : Int32} {a3 : Int32} {a4 : Int32} {a5 : Int32} {x6 : Int32} (h1 : rg a1 2147483647) (h4 : rg a4 11) (o : Option Value) (h' : EH) (hN : NN s) (hv : 0 ≤ x6.toInt) (hc : ∀ (t6 : Int32) (ts : Sg), (B_X10_takeGroup_28 q a1 a2 a3 a4 a5 x6 s) = (true, (t6, ts)) → x6.toInt < 2147483647 → t6 = x6 + 1 → Rx sc g_X10_takeGroup 3 (fr_X10_takeGroup_28 b w q a1 a2 a3 a4 a5 t6) (wd b w wl H0 ts, kn) o h') (he : ∀ (t6 : Int32) (ts : Sg), (B_X10_takeGroup_28 q a1 a2 a3 a4 a5 x6 s) = (false, (t6, ts)) → Rx sc g_X10_takeGroup 3 (fe_X10_takeGroup_28 b w q a1 a2 a3 a4 a5 t6) (wd b w wl H0 ts, kn) o h') : Rx sc g_X10_takeGroup 3 (fr_X10_takeGroup_28 b w q a1 a2 a3 a4 a5 x6) (wd b w wl H0 s, kn) o h' := by
  show Rx sc g_X10_takeGroup 3 (28, [(0, .ref (b + (q + 3))), (1, .int a1), (2, .int a2), (3, .int a3), (4, .int a4), (5, .int a5), (6, .int x6)], []) (wd b w wl H0 s, kn) o h'
  refine rx_k 2 (31, [(0, .ref (b + (q + 3))), (1, .int a1), (2, .int a2), (3, .int a3), (4, .int a4), (5, .int a5), (6, .int x6)], [.int a3, .int x6]) (fun _ _ => rfl) ?_
  by_cases c0 : a3 ≤ x6
  · refine rx_icT rfl (bt c0) ?_
    exact rx_lo am_X10_takeGroup (lo := [(0, .ref (b + (q + 3))), (1, .int a1), (2, .int a2), (3, .int a3), (4, .int a4), (5, .int a5)]) (List.forall_mem_cons.mpr ⟨List.mem_of_getElem? (i := 0) rfl, (List.forall_mem_cons.mpr ⟨List.mem_of_getElem? (i := 1) rfl, (List.forall_mem_cons.mpr ⟨List.mem_of_getElem? (i := 2) rfl, (List.forall_mem_cons.mpr ⟨List.mem_of_getElem? (i := 3) rfl, (List.forall_mem_cons.mpr ⟨List.mem_of_getElem? (i := 4) rfl, (List.forall_mem_cons.mpr ⟨List.mem_of_getElem? (i := 5) rfl, (fun _ h => absurd h List.not_mem_nil)⟩)⟩)⟩)⟩)⟩)⟩) rfl (he _ _ (show (B_X10_takeGroup_28 q a1 a2 a3 a4 a5 x6 s) = (false, (x6, s)) from ((if_pos c0).trans rfl)))
  · refine rx_icF rfl (bf c0) rfl ?_
    refine rx_k 2 (36, [(0, .ref (b + (q + 3))), (1, .int a1), (2, .int a2), (3, .int a3), (4, .int a4), (5, .int a5), (6, .int x6)], [.ref (b + (q + 3)), .ref (b + (q + 3))]) (fun _ _ => rfl) ?_
    refine rx_getf rfl rfl (wl_3 hP hq) rfl ?_
    refine rx_k 1 (41, [(0, .ref (b + (q + 3))), (1, .int a1), (2, .int a2), (3, .int a3), (4, .int a4), (5, .int a5), (6, .int x6)], [.int x6, .ref (b + 20), .ref (b + (q + 3))]) (fun _ _ => rfl) ?_
    refine rx_inv rfl rfl (rc_X2_set hP) rfl rfl rfl (q_recv (wg_20 hP)) rfl rfl ?_
    refine rx_k 2 (46, [(0, .ref (b + (q + 3))), (1, .int a1), (2, .int a2), (3, .int a3), (4, .int a4), (5, .int a5), (6, .int x6)], [.int ((D_X2_set s x6) &&& a2), .ref (b + (q + 3))]) (fun _ _ => rfl) ?_
    refine rx_inv rfl rfl (rc_X10_takeWanted hP hq hN) rfl rfl rfl (q_recv (wl_3 hP hq)) rfl rfl ?_
    refine rx_k 2 (28, [(6, .int (x6 + 1)), (0, .ref (b + (q + 3))), (1, .int a1), (2, .int a2), (3, .int a3), (4, .int a4), (5, .int a5)], []) (fun _ _ => rfl) ?_
    refine rx_lo am_X10_takeGroup (lo := [(0, .ref (b + (q + 3))), (1, .int a1), (2, .int a2), (3, .int a3), (4, .int a4), (5, .int a5), (6, .int (x6 + 1))]) (List.forall_mem_cons.mpr ⟨List.mem_of_getElem? (i := 1) rfl, (List.forall_mem_cons.mpr ⟨List.mem_of_getElem? (i := 2) rfl, (List.forall_mem_cons.mpr ⟨List.mem_of_getElem? (i := 3) rfl, (List.forall_mem_cons.mpr ⟨List.mem_of_getElem? (i := 4) rfl, (List.forall_mem_cons.mpr ⟨List.mem_of_getElem? (i := 5) rfl, (List.forall_mem_cons.mpr ⟨List.mem_of_getElem? (i := 6) rfl, (List.forall_mem_cons.mpr ⟨List.mem_of_getElem? (i := 0) rfl, (fun _ h => absurd h List.not_mem_nil)⟩)⟩)⟩)⟩)⟩)⟩)⟩) rfl (hc _ _ (show (B_X10_takeGroup_28 q a1 a2 a3 a4 a5 x6 s) = (true, ((x6 + 1), (D_X10_takeWanted q s ((D_X2_set s x6) &&& a2)))) from ((if_neg c0).trans rfl)) (lt_nle c0) rfl)
theorem nb_X10_takeGroup_28 {q : Nat} (hq : q = 38 ∨ q = 60) {a1 : Int32} {a2 : Int32} {a3 : Int32} {a4 : Int32} {a5 : Int32} {x6 : Int32} {s : Sg} (hN : NN s) : ∃ (f : Bool) (t6 : Int32) (ts : Sg), (B_X10_takeGroup_28 q a1 a2 a3 a4 a5 x6 s) = (f, (t6, ts)) ∧ NN ts := by
  by_cases c0 : a3 ≤ x6
  · exact ⟨_, _, _, (show (B_X10_takeGroup_28 q a1 a2 a3 a4 a5 x6 s) = (false, (x6, s)) from ((if_pos c0).trans rfl)), hN⟩
  · exact ⟨_, _, _, (show (B_X10_takeGroup_28 q a1 a2 a3 a4 a5 x6 s) = (true, ((x6 + 1), (D_X10_takeWanted q s ((D_X2_set s x6) &&& a2)))) from ((if_neg c0).trans rfl)), (nn_X10_takeWanted hq hN)⟩
noncomputable def R_X10_takeGroup_55 (q : Nat) (s : Sg) (a1 : Int32) (a2 : Int32) (a3 : Int32) (a4 : Int32) (a5 : Int32) : Bool × (Int32 × Sg) := (if (s (q + 3) 3) = a5 then (false, (a4, s)) else (true, ((a4 + 1), s)))
theorem r_X10_takeGroup_55 (hP : WOK b w H0) {q : Nat} (hq : q = 38 ∨ q = 60) {s : Sg} {a1 : Int32} {a2 : Int32} {a3 : Int32} {a4 : Int32} {a5 : Int32} (h1 : rg a1 2147483647) (h4 : rg a4 11) (o : Option Value) (h' : EH) (hN : NN s) (hv : 0 ≤ (a4).toInt) (hlt : (a4).toInt < 2147483647) (hc : ∀ (t4 : Int32) (ts : Sg), (R_X10_takeGroup_55 q s a1 a2 a3 a4 a5) = (true, (t4, ts)) → a4.toInt < 2147483647 → t4 = a4 + 1 → Rx sc g_X10_takeGroup 3 (fr_X10_takeGroup_12 b w q a1 a2 a3 t4) (wd b w wl H0 ts, kn) o h') (he : ∀ (t4 : Int32) (ts : Sg), (R_X10_takeGroup_55 q s a1 a2 a3 a4 a5) = (false, (t4, ts)) → Rx sc g_X10_takeGroup 3 (fe_X10_takeGroup_12 b w q a1 a2 a3 t4) (wd b w wl H0 ts, kn) o h') : Rx sc g_X10_takeGroup 3 ((55, [(0, .ref (b + (q + 3))), (1, .int a1), (2, .int a2), (3, .int a3), (4, .int a4), (5, .int a5)], [])) (wd b w wl H0 s, kn) o h' := by
  show Rx sc g_X10_takeGroup 3 (55, [(0, .ref (b + (q + 3))), (1, .int a1), (2, .int a2), (3, .int a3), (4, .int a4), (5, .int a5)], []) (wd b w wl H0 s, kn) o h'
  refine rx_k 1 (56, [(0, .ref (b + (q + 3))), (1, .int a1), (2, .int a2), (3, .int a3), (4, .int a4), (5, .int a5)], [.ref (b + (q + 3))]) (fun _ _ => rfl) ?_
  refine rx_getf rfl rfl (wl_3 hP hq) rfl ?_
  refine rx_k 1 (61, [(0, .ref (b + (q + 3))), (1, .int a1), (2, .int a2), (3, .int a3), (4, .int a4), (5, .int a5)], [.int a5, .int (s (q + 3) 3)]) (fun _ _ => rfl) ?_
  by_cases c0 : (s (q + 3) 3) = a5
  · refine rx_icF rfl (nf c0) rfl ?_
    refine rx_k 1 (73, [(0, .ref (b + (q + 3))), (1, .int a1), (2, .int a2), (3, .int a3), (4, .int a4), (5, .int a5)], []) (fun _ _ => rfl) ?_
    exact rx_lo am_X10_takeGroup (lo := []) (fun _ h => absurd h List.not_mem_nil) rfl (he _ _ (show (R_X10_takeGroup_55 q s a1 a2 a3 a4 a5) = (false, (a4, s)) from ((if_pos c0).trans rfl)))
  · refine rx_icT rfl (nt c0) ?_
    refine rx_k 2 (12, [(4, .int (a4 + 1)), (0, .ref (b + (q + 3))), (1, .int a1), (2, .int a2), (3, .int a3), (5, .int a5)], []) (fun _ _ => rfl) ?_
    refine rx_lo am_X10_takeGroup (lo := [(0, .ref (b + (q + 3))), (1, .int a1), (2, .int a2), (3, .int a3), (4, .int (a4 + 1))]) (List.forall_mem_cons.mpr ⟨List.mem_of_getElem? (i := 1) rfl, (List.forall_mem_cons.mpr ⟨List.mem_of_getElem? (i := 2) rfl, (List.forall_mem_cons.mpr ⟨List.mem_of_getElem? (i := 3) rfl, (List.forall_mem_cons.mpr ⟨List.mem_of_getElem? (i := 4) rfl, (List.forall_mem_cons.mpr ⟨List.mem_of_getElem? (i := 0) rfl, (fun _ h => absurd h List.not_mem_nil)⟩)⟩)⟩)⟩)⟩) rfl (hc _ _ (show (R_X10_takeGroup_55 q s a1 a2 a3 a4 a5) = (true, ((a4 + 1), s)) from ((if_neg c0).trans rfl)) hlt rfl)
theorem nr_X10_takeGroup_55 {q : Nat} (hq : q = 38 ∨ q = 60) {s : Sg} {a1 : Int32} {a2 : Int32} {a3 : Int32} {a4 : Int32} {a5 : Int32} (hN : NN s) : ∃ (f : Bool) (t4 : Int32) (ts : Sg), (R_X10_takeGroup_55 q s a1 a2 a3 a4 a5) = (f, (t4, ts)) ∧ NN ts := by
  by_cases c0 : (s (q + 3) 3) = a5
  · exact ⟨_, _, _, (show (R_X10_takeGroup_55 q s a1 a2 a3 a4 a5) = (false, (a4, s)) from ((if_pos c0).trans rfl)), hN⟩
  · exact ⟨_, _, _, (show (R_X10_takeGroup_55 q s a1 a2 a3 a4 a5) = (true, ((a4 + 1), s)) from ((if_neg c0).trans rfl)), hN⟩
noncomputable def B_X10_takeGroup_12 (q : Nat) (a1 : Int32) (a2 : Int32) (a3 : Int32) (x4 : Int32) (s : Sg) : Bool × (Int32 × Sg) := (if 10 < x4 then (false, (x4, s)) else (R_X10_takeGroup_55 q ((itr (uc2 (B_X10_takeGroup_28 q a1 a2 a3 x4 (s (q + 3) 3))) BIG (a1, s)).2) a1 a2 a3 x4 (s (q + 3) 3)))
theorem b_X10_takeGroup_12 (hP : WOK b w H0) {q : Nat} (hq : q = 38 ∨ q = 60) {s : Sg} {a1 : Int32} {a2 : Int32} {a3 : Int32} {x4 : Int32} (h1 : rg a1 2147483647) (o : Option Value) (h' : EH) (hN : NN s) (hv : 0 ≤ x4.toInt) (hc : ∀ (t4 : Int32) (ts : Sg), (B_X10_takeGroup_12 q a1 a2 a3 x4 s) = (true, (t4, ts)) → x4.toInt < 2147483647 → t4 = x4 + 1 → Rx sc g_X10_takeGroup 3 (fr_X10_takeGroup_12 b w q a1 a2 a3 t4) (wd b w wl H0 ts, kn) o h') (he : ∀ (t4 : Int32) (ts : Sg), (B_X10_takeGroup_12 q a1 a2 a3 x4 s) = (false, (t4, ts)) → Rx sc g_X10_takeGroup 3 (fe_X10_takeGroup_12 b w q a1 a2 a3 t4) (wd b w wl H0 ts, kn) o h') : Rx sc g_X10_takeGroup 3 (fr_X10_takeGroup_12 b w q a1 a2 a3 x4) (wd b w wl H0 s, kn) o h' := by
  show Rx sc g_X10_takeGroup 3 (12, [(0, .ref (b + (q + 3))), (1, .int a1), (2, .int a2), (3, .int a3), (4, .int x4)], []) (wd b w wl H0 s, kn) o h'
  refine rx_k 2 (16, [(0, .ref (b + (q + 3))), (1, .int a1), (2, .int a2), (3, .int a3), (4, .int x4)], [.int 10, .int x4]) (fun _ _ => rfl) ?_
  by_cases c0 : 10 < x4
  · refine rx_icT rfl (bt c0) ?_
    exact rx_lo am_X10_takeGroup (lo := []) (fun _ h => absurd h List.not_mem_nil) rfl (he _ _ (show (B_X10_takeGroup_12 q a1 a2 a3 x4 s) = (false, (x4, s)) from ((if_pos c0).trans rfl)))
  · refine rx_icF rfl (bf c0) rfl ?_
    refine rx_k 1 (20, [(0, .ref (b + (q + 3))), (1, .int a1), (2, .int a2), (3, .int a3), (4, .int x4)], [.ref (b + (q + 3))]) (fun _ _ => rfl) ?_
    refine rx_getf rfl rfl (wl_3 hP hq) rfl ?_
    refine rx_k 3 (28, [(6, .int a1), (5, .int (s (q + 3) 3)), (0, .ref (b + (q + 3))), (1, .int a1), (2, .int a2), (3, .int a3), (4, .int x4)], []) (fun _ _ => rfl) ?_
    refine rx_lo am_X10_takeGroup (lo := [(0, .ref (b + (q + 3))), (1, .int a1), (2, .int a2), (3, .int a3), (4, .int x4), (5, .int (s (q + 3) 3)), (6, .int a1)]) (List.forall_mem_cons.mpr ⟨List.mem_of_getElem? (i := 2) rfl, (List.forall_mem_cons.mpr ⟨List.mem_of_getElem? (i := 3) rfl, (List.forall_mem_cons.mpr ⟨List.mem_of_getElem? (i := 4) rfl, (List.forall_mem_cons.mpr ⟨List.mem_of_getElem? (i := 5) rfl, (List.forall_mem_cons.mpr ⟨List.mem_of_getElem? (i := 6) rfl, (List.forall_mem_cons.mpr ⟨List.mem_of_getElem? (i := 1) rfl, (List.forall_mem_cons.mpr ⟨List.mem_of_getElem? (i := 0) rfl, (fun _ h => absurd h List.not_mem_nil)⟩)⟩)⟩)⟩)⟩)⟩)⟩) rfl ?_
    refine rx_loop2s (B := B_X10_takeGroup_28 q a1 a2 a3 x4 (s (q + 3) 3)) (fr := (fr_X10_takeGroup_28 b w q a1 a2 a3 x4 (s (q + 3) 3))) (E := (fe_X10_takeGroup_28 b w q a1 a2 a3 x4 (s (q + 3) 3))) (I := fun z6 zs => NN zs) (fun z6 zs oo hh9 hI9 hv9 hc9 he9 => b_X10_takeGroup_28 hP hq h1 (rg_e hv (Int32.not_lt.mp c0) (m := 10) (n := 11) rfl) oo hh9 hI9 hv9 hc9 he9) (fun z6 zs hz => nb_X10_takeGroup_28 hq hz) BIG a1 s _ _ hN h1.1 (le_enough h1.1) ?_
    have e9 := (show (B_X10_takeGroup_12 q a1 a2 a3 x4 s) = (R_X10_takeGroup_55 q ((itr (uc2 (B_X10_takeGroup_28 q a1 a2 a3 x4 (s (q + 3) 3))) BIG (a1, s)).2) a1 a2 a3 x4 (s (q + 3) 3)) from ((if_neg c0).trans rfl))
    exact r_X10_takeGroup_55 hP hq h1 (rg_e hv (Int32.not_lt.mp c0) (m := 10) (n := 11) rfl) o h' (itr_inv2 (B := B_X10_takeGroup_28 q a1 a2 a3 x4 (s (q + 3) 3)) (I := fun z6 zs => NN zs) (fun z6 zs hz => nb_X10_takeGroup_28 hq hz) BIG a1 s hN) (rg_e hv (Int32.not_lt.mp c0) (m := 10) (n := 11) rfl).1 (lt_le (Int32.not_lt.mp c0) (m := 10) (n := 10) rfl (by decide)) (fun t4 ts e8 l8 v8 => hc t4 ts (e9.trans e8) l8 v8) (fun t4 ts e8 => he t4 ts (e9.trans e8))
theorem nb_X10_takeGroup_12 {q : Nat} (hq : q = 38 ∨ q = 60) {a1 : Int32} {a2 : Int32} {a3 : Int32} {x4 : Int32} {s : Sg} (hN : NN s) : ∃ (f : Bool) (t4 : Int32) (ts : Sg), (B_X10_takeGroup_12 q a1 a2 a3 x4 s) = (f, (t4, ts)) ∧ NN ts := by
  by_cases c0 : 10 < x4
  · exact ⟨_, _, _, (show (B_X10_takeGroup_12 q a1 a2 a3 x4 s) = (false, (x4, s)) from ((if_pos c0).trans rfl)), hN⟩
  · rw [show (B_X10_takeGroup_12 q a1 a2 a3 x4 s) = (R_X10_takeGroup_55 q ((itr (uc2 (B_X10_takeGroup_28 q a1 a2 a3 x4 (s (q + 3) 3))) BIG (a1, s)).2) a1 a2 a3 x4 (s (q + 3) 3)) from ((if_neg c0).trans rfl)]
    exact (nr_X10_takeGroup_55 hq (itr_inv2 (B := B_X10_takeGroup_28 q a1 a2 a3 x4 (s (q + 3) 3)) (I := fun z6 zs => NN zs) (fun z6 zs hz => nb_X10_takeGroup_28 hq hz) BIG a1 s hN))
noncomputable def R_X10_takeGroup_73 (q : Nat) (s : Sg) : Sg := s
theorem r_X10_takeGroup_73 (hP : WOK b w H0) {q : Nat} (hq : q = 38 ∨ q = 60) {s : Sg} (hN : NN s) : Rx sc g_X10_takeGroup 3 ((73, [], [])) (wd b w wl H0 s, kn) none (wd b w wl H0 (R_X10_takeGroup_73 q s), kn) := by
  show Rx sc g_X10_takeGroup 3 (73, [], []) (wd b w wl H0 s, kn) none (wd b w wl H0 (R_X10_takeGroup_73 q s), kn)
  rw [(show (R_X10_takeGroup_73 q s) = s from rfl)]
  exact rx_rv rfl
theorem nr_X10_takeGroup_73 {q : Nat} (hq : q = 38 ∨ q = 60) {s : Sg} (hN : NN s) : NN ((R_X10_takeGroup_73 q s)) := by
  rw [show (R_X10_takeGroup_73 q s) = s from rfl]
  exact hN
noncomputable def D_X10_takeGroup (q : Nat) (s : Sg) (a1 : Int32) (a2 : Int32) : Sg := (R_X10_takeGroup_73 q ((itr (uc2 (B_X10_takeGroup_12 q a1 a2 (D_X2_groupEnd s a1))) BIG (0, s)).2))
theorem m_X10_takeGroup (hP : WOK b w H0) {q : Nat} (hq : q = 38 ∨ q = 60) {s : Sg} {a1 : Int32} {a2 : Int32} (hN : NN s) (ha1 : rg a1 2147483647) : Rx sc g_X10_takeGroup 3 ((0, [(0, .ref (b + (q + 3))), (1, .int a1), (2, .int a2)], [])) (wd b w wl H0 s, kn) none (wd b w wl H0 (D_X10_takeGroup q s a1 a2), kn) := by
  show Rx sc g_X10_takeGroup 3 (0, [(0, .ref (b + (q + 3))), (1, .int a1), (2, .int a2)], []) (wd b w wl H0 s, kn) none (wd b w wl H0 (D_X10_takeGroup q s a1 a2), kn)
  refine rx_k 1 (1, [(0, .ref (b + (q + 3))), (1, .int a1), (2, .int a2)], [.ref (b + (q + 3))]) (fun _ _ => rfl) ?_
  refine rx_getf rfl rfl (wl_3 hP hq) rfl ?_
  refine rx_k 1 (5, [(0, .ref (b + (q + 3))), (1, .int a1), (2, .int a2)], [.int a1, .ref (b + 20)]) (fun _ _ => rfl) ?_
  refine rx_inv rfl rfl (rc_X2_groupEnd hP hN ha1) rfl rfl rfl (q_recv (wg_20 hP)) rfl rfl ?_
  refine rx_k 3 (12, [(4, .int 0), (3, .int (D_X2_groupEnd s a1)), (0, .ref (b + (q + 3))), (1, .int a1), (2, .int a2)], []) (fun _ _ => rfl) ?_
  refine rx_lo am_X10_takeGroup (lo := [(0, .ref (b + (q + 3))), (1, .int a1), (2, .int a2), (3, .int (D_X2_groupEnd s a1)), (4, .int 0)]) (List.forall_mem_cons.mpr ⟨List.mem_of_getElem? (i := 2) rfl, (List.forall_mem_cons.mpr ⟨List.mem_of_getElem? (i := 3) rfl, (List.forall_mem_cons.mpr ⟨List.mem_of_getElem? (i := 4) rfl, (List.forall_mem_cons.mpr ⟨List.mem_of_getElem? (i := 1) rfl, (List.forall_mem_cons.mpr ⟨List.mem_of_getElem? (i := 0) rfl, (fun _ h => absurd h List.not_mem_nil)⟩)⟩)⟩)⟩)⟩) rfl ?_
  refine rx_loop2s (B := B_X10_takeGroup_12 q a1 a2 (D_X2_groupEnd s a1)) (fr := (fr_X10_takeGroup_12 b w q a1 a2 (D_X2_groupEnd s a1))) (E := (fe_X10_takeGroup_12 b w q a1 a2 (D_X2_groupEnd s a1))) (I := fun z4 zs => NN zs) (fun z4 zs oo hh9 hI9 hv9 hc9 he9 => b_X10_takeGroup_12 hP hq ha1 oo hh9 hI9 hv9 hc9 he9) (fun z4 zs hz => nb_X10_takeGroup_12 hq hz) BIG 0 s _ _ hN (by decide : (0 : Int) ≤ (0 : Int32).toInt) (le_enough (by decide : (0 : Int) ≤ (0 : Int32).toInt)) ?_
  rw [(show (D_X10_takeGroup q s a1 a2) = (R_X10_takeGroup_73 q ((itr (uc2 (B_X10_takeGroup_12 q a1 a2 (D_X2_groupEnd s a1))) BIG (0, s)).2)) from rfl)]
  exact r_X10_takeGroup_73 hP hq (itr_inv2 (B := B_X10_takeGroup_12 q a1 a2 (D_X2_groupEnd s a1)) (I := fun z4 zs => NN zs) (fun z4 zs hz => nb_X10_takeGroup_12 hq hz) BIG 0 s hN)
theorem rc_X10_takeGroup (hP : WOK b w H0) {q : Nat} (hq : q = 38 ∨ q = 60) {s : Sg} {a1 : Int32} {a2 : Int32} (hN : NN s) (ha1 : rg a1 2147483647) : Rc sc 4 155 [.ref (b + (q + 3)), .int a1, .int a2] (wd b w wl H0 s, kn) none (wd b w wl H0 (D_X10_takeGroup q s a1 a2), kn) := rx_mc (m_X10_takeGroup hP hq hN ha1) rfl rfl (Nat.ble_eq_true_of_le (Nat.le_refl _)) (Nat.ble_eq_true_of_le (Nat.le_refl _))
theorem nn_X10_takeGroup {q : Nat} (hq : q = 38 ∨ q = 60) {s : Sg} {a1 : Int32} {a2 : Int32} (hN : NN s) : NN (D_X10_takeGroup q s a1 a2) := by
  rw [show (D_X10_takeGroup q s a1 a2) = (R_X10_takeGroup_73 q ((itr (uc2 (B_X10_takeGroup_12 q a1 a2 (D_X2_groupEnd s a1))) BIG (0, s)).2)) from rfl]
  exact (nr_X10_takeGroup_73 hq (itr_inv2 (B := B_X10_takeGroup_12 q a1 a2 (D_X2_groupEnd s a1)) (I := fun z4 zs => NN zs) (fun z4 zs hz => nb_X10_takeGroup_12 hq hz) BIG 0 s hN))
theorem fwb_X10_takeGroup_28 {q : Nat} {a1 : Int32} {a2 : Int32} {a3 : Int32} {a4 : Int32} {a5 : Int32} {x6 : Int32} {s : Sg} {k j : Nat} (l3f3 : k ≠ q + 3 ∨ j ≠ 3) (l3f4 : k ≠ q + 3 ∨ j ≠ 4) (l3f5 : k ≠ q + 3 ∨ j ≠ 5) (l3f6 : k ≠ q + 3 ∨ j ≠ 6) (l4 : k ≠ q + 4) : ∃ (f : Bool) (t6 : Int32) (ts : Sg), (B_X10_takeGroup_28 q a1 a2 a3 a4 a5 x6 s) = (f, (t6, ts)) ∧ ts k j = s k j := by
  by_cases c0 : a3 ≤ x6
  · exact ⟨_, _, _, (show (B_X10_takeGroup_28 q a1 a2 a3 a4 a5 x6 s) = (false, (x6, s)) from ((if_pos c0).trans rfl)), rfl⟩
  · exact ⟨_, _, _, (show (B_X10_takeGroup_28 q a1 a2 a3 a4 a5 x6 s) = (true, ((x6 + 1), (D_X10_takeWanted q s ((D_X2_set s x6) &&& a2)))) from ((if_neg c0).trans rfl)), ((fw_X10_takeWanted l3f3 l3f4 l3f5 l3f6 l4).trans rfl)⟩
theorem fwr_X10_takeGroup_55 {q : Nat} {s : Sg} {a1 : Int32} {a2 : Int32} {a3 : Int32} {a4 : Int32} {a5 : Int32} {k j : Nat} (l3f3 : k ≠ q + 3 ∨ j ≠ 3) (l3f4 : k ≠ q + 3 ∨ j ≠ 4) (l3f5 : k ≠ q + 3 ∨ j ≠ 5) (l3f6 : k ≠ q + 3 ∨ j ≠ 6) (l4 : k ≠ q + 4) : ∃ (f : Bool) (t4 : Int32) (ts : Sg), (R_X10_takeGroup_55 q s a1 a2 a3 a4 a5) = (f, (t4, ts)) ∧ ts k j = s k j := by
  by_cases c0 : (s (q + 3) 3) = a5
  · exact ⟨_, _, _, (show (R_X10_takeGroup_55 q s a1 a2 a3 a4 a5) = (false, (a4, s)) from ((if_pos c0).trans rfl)), rfl⟩
  · exact ⟨_, _, _, (show (R_X10_takeGroup_55 q s a1 a2 a3 a4 a5) = (true, ((a4 + 1), s)) from ((if_neg c0).trans rfl)), rfl⟩
theorem fwb_X10_takeGroup_12 {q : Nat} {a1 : Int32} {a2 : Int32} {a3 : Int32} {x4 : Int32} {s : Sg} {k j : Nat} (l3f3 : k ≠ q + 3 ∨ j ≠ 3) (l3f4 : k ≠ q + 3 ∨ j ≠ 4) (l3f5 : k ≠ q + 3 ∨ j ≠ 5) (l3f6 : k ≠ q + 3 ∨ j ≠ 6) (l4 : k ≠ q + 4) : ∃ (f : Bool) (t4 : Int32) (ts : Sg), (B_X10_takeGroup_12 q a1 a2 a3 x4 s) = (f, (t4, ts)) ∧ ts k j = s k j := by
  by_cases c0 : 10 < x4
  · exact ⟨_, _, _, (show (B_X10_takeGroup_12 q a1 a2 a3 x4 s) = (false, (x4, s)) from ((if_pos c0).trans rfl)), rfl⟩
  · rw [show (B_X10_takeGroup_12 q a1 a2 a3 x4 s) = (R_X10_takeGroup_55 q ((itr (uc2 (B_X10_takeGroup_28 q a1 a2 a3 x4 (s (q + 3) 3))) BIG (a1, s)).2) a1 a2 a3 x4 (s (q + 3) 3)) from ((if_neg c0).trans rfl)]
    exact (exq2t (fwr_X10_takeGroup_55 l3f3 l3f4 l3f5 l3f6 l4) ((itr_inv2 (B := B_X10_takeGroup_28 q a1 a2 a3 x4 (s (q + 3) 3)) (I := fun z6 zs => zs k j = s k j) (fun z6 zs hz => exq2 (fwb_X10_takeGroup_28 l3f3 l3f4 l3f5 l3f6 l4) hz) BIG a1 s rfl).trans rfl))
theorem fwr_X10_takeGroup_73 {q : Nat} {s : Sg} {k j : Nat} (l3f3 : k ≠ q + 3 ∨ j ≠ 3) (l3f4 : k ≠ q + 3 ∨ j ≠ 4) (l3f5 : k ≠ q + 3 ∨ j ≠ 5) (l3f6 : k ≠ q + 3 ∨ j ≠ 6) (l4 : k ≠ q + 4) : (R_X10_takeGroup_73 q s) k j = s k j := by
  rw [show (R_X10_takeGroup_73 q s) = s from rfl]
  first | done | exact rfl
theorem fw_X10_takeGroup {q : Nat} {s : Sg} {a1 : Int32} {a2 : Int32} {k j : Nat} (l3f3 : k ≠ q + 3 ∨ j ≠ 3) (l3f4 : k ≠ q + 3 ∨ j ≠ 4) (l3f5 : k ≠ q + 3 ∨ j ≠ 5) (l3f6 : k ≠ q + 3 ∨ j ≠ 6) (l4 : k ≠ q + 4) : (D_X10_takeGroup q s a1 a2) k j = s k j := by
  rw [show (D_X10_takeGroup q s a1 a2) = (R_X10_takeGroup_73 q ((itr (uc2 (B_X10_takeGroup_12 q a1 a2 (D_X2_groupEnd s a1))) BIG (0, s)).2)) from rfl]
  first | done | exact ((fwr_X10_takeGroup_73 l3f3 l3f4 l3f5 l3f6 l4).trans ((itr_inv2 (B := B_X10_takeGroup_12 q a1 a2 (D_X2_groupEnd s a1)) (I := fun z4 zs => zs k j = s k j) (fun z4 zs hz => exq2 (fwb_X10_takeGroup_12 l3f3 l3f4 l3f5 l3f6 l4) hz) BIG 0 s rfl).trans rfl))
-- LinkHarbour$Taking.take
def fr_X10_take_40 (b w : Nat) (q : Nat) (a3 : Int32) (x4 : Int32) : EF := (40, [(0, .ref (b + (q + 3))), (3, .int a3), (4, .int x4)], [])
def fe_X10_take_40 (b w : Nat) (q : Nat) (a3 : Int32) (x4 : Int32) : EF := (107, [], [])
noncomputable def B_X10_take_40 (q : Nat) (a3 : Int32) (x4 : Int32) (s : Sg) : Bool × (Int32 × Sg) := (if (D_X2_count s) ≤ x4 then (false, (x4, s)) else (if (D_X2_isPlain s x4) = 0 then (if (D_X2_joinsAhead s x4) = 0 then (true, ((x4 + 1), (D_X10_takeGroup q s x4 a3))) else (true, ((x4 + 1), s))) else (true, ((x4 + 1), (D_X10_takeAll q s ((D_X2_set s x4) &&& a3))))))
theorem b_X10_take_40 (hP : WOK b w H0) {q : Nat} (hq : q = 38 ∨ q = 60) {s : Sg} {a3 : Int32} {x4 : Int32} (o : Option Value) (h' : EH) (hN : NN s) (hv : 0 ≤ x4.toInt) (hc : ∀ (t4 : Int32) (ts : Sg), (B_X10_take_40 q a3 x4 s) = (true, (t4, ts)) → x4.toInt < 2147483647 → t4 = x4 + 1 → Rx sc g_X10_take 4 (fr_X10_take_40 b w q a3 t4) (wd b w wl H0 ts, kn) o h') (he : ∀ (t4 : Int32) (ts : Sg), (B_X10_take_40 q a3 x4 s) = (false, (t4, ts)) → Rx sc g_X10_take 4 (fe_X10_take_40 b w q a3 t4) (wd b w wl H0 ts, kn) o h') : Rx sc g_X10_take 4 (fr_X10_take_40 b w q a3 x4) (wd b w wl H0 s, kn) o h' := by
  show Rx sc g_X10_take 4 (40, [(0, .ref (b + (q + 3))), (3, .int a3), (4, .int x4)], []) (wd b w wl H0 s, kn) o h'
  refine rx_k 2 (43, [(0, .ref (b + (q + 3))), (3, .int a3), (4, .int x4)], [.ref (b + (q + 3)), .int x4]) (fun _ _ => rfl) ?_
  refine rx_getf rfl rfl (wl_3 hP hq) rfl ?_
  refine rx_inv rfl rfl (rc_X2_count hP) rfl rfl rfl (q_recv (wg_20 hP)) rfl rfl ?_
  by_cases c0 : (D_X2_count s) ≤ x4
  · refine rx_icT rfl (bt c0) ?_
    exact rx_lo am_X10_take (lo := []) (fun _ h => absurd h List.not_mem_nil) rfl (he _ _ (show (B_X10_take_40 q a3 x4 s) = (false, (x4, s)) from ((if_pos c0).trans rfl)))
  · refine rx_icF rfl (bf c0) rfl ?_
    refine rx_k 1 (53, [(0, .ref (b + (q + 3))), (3, .int a3), (4, .int x4)], [.ref (b + (q + 3))]) (fun _ _ => rfl) ?_
    refine rx_getf rfl rfl (wl_3 hP hq) rfl ?_
    refine rx_k 1 (58, [(0, .ref (b + (q + 3))), (3, .int a3), (4, .int x4)], [.int x4, .ref (b + 20)]) (fun _ _ => rfl) ?_
    refine rx_inv rfl rfl (rc_X2_isPlain hP) rfl rfl rfl (q_recv (wg_20 hP)) rfl rfl ?_
    by_cases c1 : (D_X2_isPlain s x4) = 0
    · refine rx_ifT rfl (bt c1) ?_
      refine rx_k 1 (83, [(0, .ref (b + (q + 3))), (3, .int a3), (4, .int x4)], [.ref (b + (q + 3))]) (fun _ _ => rfl) ?_
      refine rx_getf rfl rfl (wl_3 hP hq) rfl ?_
      refine rx_k 1 (88, [(0, .ref (b + (q + 3))), (3, .int a3), (4, .int x4)], [.int x4, .ref (b + 20)]) (fun _ _ => rfl) ?_
      refine rx_inv rfl rfl (rc_X2_joinsAhead hP) rfl rfl rfl (q_recv (wg_20 hP)) rfl rfl ?_
      by_cases c2 : (D_X2_joinsAhead s x4) = 0
      · refine rx_ifF rfl (nf c2) rfl ?_
        refine rx_k 3 (98, [(0, .ref (b + (q + 3))), (3, .int a3), (4, .int x4)], [.int a3, .int x4, .ref (b + (q + 3))]) (fun _ _ => rfl) ?_
        refine rx_inv rfl rfl (rc_X10_takeGroup hP hq hN ⟨hv, (lt_nle c0)⟩) rfl rfl rfl (q_recv (wl_3 hP hq)) rfl rfl ?_
        refine rx_k 2 (40, [(4, .int (x4 + 1)), (0, .ref (b + (q + 3))), (3, .int a3)], []) (fun _ _ => rfl) ?_
        refine rx_lo am_X10_take (lo := [(0, .ref (b + (q + 3))), (3, .int a3), (4, .int (x4 + 1))]) (List.forall_mem_cons.mpr ⟨List.mem_of_getElem? (i := 1) rfl, (List.forall_mem_cons.mpr ⟨List.mem_of_getElem? (i := 2) rfl, (List.forall_mem_cons.mpr ⟨List.mem_of_getElem? (i := 0) rfl, (fun _ h => absurd h List.not_mem_nil)⟩)⟩)⟩) rfl (hc _ _ (show (B_X10_take_40 q a3 x4 s) = (true, ((x4 + 1), (D_X10_takeGroup q s x4 a3))) from ((if_neg c0).trans ((if_pos c1).trans ((if_pos c2).trans rfl)))) (lt_nle c0) rfl)
      · refine rx_ifT rfl (nt c2) ?_
        refine rx_k 2 (40, [(4, .int (x4 + 1)), (0, .ref (b + (q + 3))), (3, .int a3)], []) (fun _ _ => rfl) ?_
        refine rx_lo am_X10_take (lo := [(0, .ref (b + (q + 3))), (3, .int a3), (4, .int (x4 + 1))]) (List.forall_mem_cons.mpr ⟨List.mem_of_getElem? (i := 1) rfl, (List.forall_mem_cons.mpr ⟨List.mem_of_getElem? (i := 2) rfl, (List.forall_mem_cons.mpr ⟨List.mem_of_getElem? (i := 0) rfl, (fun _ h => absurd h List.not_mem_nil)⟩)⟩)⟩) rfl (hc _ _ (show (B_X10_take_40 q a3 x4 s) = (true, ((x4 + 1), s)) from ((if_neg c0).trans ((if_pos c1).trans ((if_neg c2).trans rfl)))) (lt_nle c0) rfl)
    · refine rx_ifF rfl (bf c1) rfl ?_
      refine rx_k 2 (66, [(0, .ref (b + (q + 3))), (3, .int a3), (4, .int x4)], [.ref (b + (q + 3)), .ref (b + (q + 3))]) (fun _ _ => rfl) ?_
      refine rx_getf rfl rfl (wl_3 hP hq) rfl ?_
      refine rx_k 1 (71, [(0, .ref (b + (q + 3))), (3, .int a3), (4, .int x4)], [.int x4, .ref (b + 20), .ref (b + (q + 3))]) (fun _ _ => rfl) ?_
      refine rx_inv rfl rfl (rc_X2_set hP) rfl rfl rfl (q_recv (wg_20 hP)) rfl rfl ?_
      refine rx_k 2 (76, [(0, .ref (b + (q + 3))), (3, .int a3), (4, .int x4)], [.int ((D_X2_set s x4) &&& a3), .ref (b + (q + 3))]) (fun _ _ => rfl) ?_
      refine rx_inv rfl rfl (rc_X10_takeAll hP hq hN) rfl rfl rfl (q_recv (wl_3 hP hq)) rfl rfl ?_
      refine rx_k 3 (40, [(4, .int (x4 + 1)), (0, .ref (b + (q + 3))), (3, .int a3)], []) (fun _ _ => rfl) ?_
      refine rx_lo am_X10_take (lo := [(0, .ref (b + (q + 3))), (3, .int a3), (4, .int (x4 + 1))]) (List.forall_mem_cons.mpr ⟨List.mem_of_getElem? (i := 1) rfl, (List.forall_mem_cons.mpr ⟨List.mem_of_getElem? (i := 2) rfl, (List.forall_mem_cons.mpr ⟨List.mem_of_getElem? (i := 0) rfl, (fun _ h => absurd h List.not_mem_nil)⟩)⟩)⟩) rfl (hc _ _ (show (B_X10_take_40 q a3 x4 s) = (true, ((x4 + 1), (D_X10_takeAll q s ((D_X2_set s x4) &&& a3)))) from ((if_neg c0).trans ((if_neg c1).trans rfl))) (lt_nle c0) rfl)
theorem nb_X10_take_40 {q : Nat} (hq : q = 38 ∨ q = 60) {a3 : Int32} {x4 : Int32} {s : Sg} (hN : NN s) : ∃ (f : Bool) (t4 : Int32) (ts : Sg), (B_X10_take_40 q a3 x4 s) = (f, (t4, ts)) ∧ NN ts := by
  by_cases c0 : (D_X2_count s) ≤ x4
  · exact ⟨_, _, _, (show (B_X10_take_40 q a3 x4 s) = (false, (x4, s)) from ((if_pos c0).trans rfl)), hN⟩
  · by_cases c1 : (D_X2_isPlain s x4) = 0
    · by_cases c2 : (D_X2_joinsAhead s x4) = 0
      · exact ⟨_, _, _, (show (B_X10_take_40 q a3 x4 s) = (true, ((x4 + 1), (D_X10_takeGroup q s x4 a3))) from ((if_neg c0).trans ((if_pos c1).trans ((if_pos c2).trans rfl)))), (nn_X10_takeGroup hq hN)⟩
      · exact ⟨_, _, _, (show (B_X10_take_40 q a3 x4 s) = (true, ((x4 + 1), s)) from ((if_neg c0).trans ((if_pos c1).trans ((if_neg c2).trans rfl)))), hN⟩
    · exact ⟨_, _, _, (show (B_X10_take_40 q a3 x4 s) = (true, ((x4 + 1), (D_X10_takeAll q s ((D_X2_set s x4) &&& a3)))) from ((if_neg c0).trans ((if_neg c1).trans rfl))), (nn_X10_takeAll hq hN)⟩
noncomputable def R_X10_take_107 (q : Nat) (s : Sg) : Sg := s
theorem r_X10_take_107 (hP : WOK b w H0) {q : Nat} (hq : q = 38 ∨ q = 60) {s : Sg} (hN : NN s) : Rx sc g_X10_take 4 ((107, [], [])) (wd b w wl H0 s, kn) none (wd b w wl H0 (R_X10_take_107 q s), kn) := by
  show Rx sc g_X10_take 4 (107, [], []) (wd b w wl H0 s, kn) none (wd b w wl H0 (R_X10_take_107 q s), kn)
  rw [(show (R_X10_take_107 q s) = s from rfl)]
  exact rx_rv rfl
theorem nr_X10_take_107 {q : Nat} (hq : q = 38 ∨ q = 60) {s : Sg} (hN : NN s) : NN ((R_X10_take_107 q s)) := by
  rw [show (R_X10_take_107 q s) = s from rfl]
  exact hN
noncomputable def D_X10_take (q : Nat) (s : Sg) (a1 : Int32) (a2 : Int32) : Sg := (if a2 = (-1) then (R_X10_take_107 q ((itr (uc2 (B_X10_take_40 q (-1))) BIG (0, (up (up (up (up s (q + 3) 3 0) (q + 3) 4 0) (q + 3) 5 (1 <<< (a1 &&& 31))) (q + 3) 6 0))).2)) else (R_X10_take_107 q ((itr (uc2 (B_X10_take_40 q ((1 <<< (a2 &&& 31)) ^^^ (-1)))) BIG (0, (up (up (up (up s (q + 3) 3 0) (q + 3) 4 0) (q + 3) 5 (1 <<< (a1 &&& 31))) (q + 3) 6 0))).2)))
theorem m_X10_take (hP : WOK b w H0) {q : Nat} (hq : q = 38 ∨ q = 60) {s : Sg} {a1 : Int32} {a2 : Int32} (hN : NN s) : Rx sc g_X10_take 4 ((0, [(0, .ref (b + (q + 3))), (1, .int a1), (2, .int a2)], [])) (wd b w wl H0 s, kn) none (wd b w wl H0 (D_X10_take q s a1 a2), kn) := by
  show Rx sc g_X10_take 4 (0, [(0, .ref (b + (q + 3))), (1, .int a1), (2, .int a2)], []) (wd b w wl H0 s, kn) none (wd b w wl H0 (D_X10_take q s a1 a2), kn)
  refine rx_k 2 (2, [(0, .ref (b + (q + 3))), (1, .int a1), (2, .int a2)], [.int 0, .ref (b + (q + 3))]) (fun _ _ => rfl) ?_
  refine rx_putf rfl rfl (wl_3 hP hq) rfl (wz_3_3 hP hq) ?_
  refine rx_k 2 (7, [(0, .ref (b + (q + 3))), (1, .int a1), (2, .int a2)], [.int 0, .ref (b + (q + 3))]) (fun _ _ => rfl) ?_
  refine rx_putf rfl rfl (wl_3 hP hq) rfl (wz_3_4 hP hq) ?_
  refine rx_k 4 (14, [(0, .ref (b + (q + 3))), (1, .int a1), (2, .int a2)], [.int (1 <<< (a1 &&& 31)), .ref (b + (q + 3))]) (fun _ _ => rfl) ?_
  refine rx_putf rfl rfl (wl_3 hP hq) rfl (wz_3_5 hP hq) ?_
  refine rx_k 2 (19, [(0, .ref (b + (q + 3))), (1, .int a1), (2, .int a2)], [.int 0, .ref (b + (q + 3))]) (fun _ _ => rfl) ?_
  refine rx_putf rfl rfl (wl_3 hP hq) rfl (wz_3_6 hP hq) ?_
  refine rx_k 2 (24, [(0, .ref (b + (q + 3))), (1, .int a1), (2, .int a2)], [.int (-1), .int a2]) (fun _ _ => rfl) ?_
  by_cases c0 : a2 = (-1)
  · refine rx_icF rfl (nf c0) rfl ?_
    refine rx_k 5 (40, [(4, .int 0), (3, .int (-1)), (0, .ref (b + (q + 3))), (1, .int a1), (2, .int a2)], []) (fun _ _ => rfl) ?_
    refine rx_lo am_X10_take (lo := [(0, .ref (b + (q + 3))), (3, .int (-1)), (4, .int 0)]) (List.forall_mem_cons.mpr ⟨List.mem_of_getElem? (i := 2) rfl, (List.forall_mem_cons.mpr ⟨List.mem_of_getElem? (i := 1) rfl, (List.forall_mem_cons.mpr ⟨List.mem_of_getElem? (i := 0) rfl, (fun _ h => absurd h List.not_mem_nil)⟩)⟩)⟩) rfl ?_
    refine rx_loop2s (B := B_X10_take_40 q (-1)) (fr := (fr_X10_take_40 b w q (-1))) (E := (fe_X10_take_40 b w q (-1))) (I := fun z4 zs => NN zs) (fun z4 zs oo hh9 hI9 hv9 hc9 he9 => b_X10_take_40 hP hq oo hh9 hI9 hv9 hc9 he9) (fun z4 zs hz => nb_X10_take_40 hq hz) BIG 0 (up (up (up (up s (q + 3) 3 0) (q + 3) 4 0) (q + 3) 5 (1 <<< (a1 &&& 31))) (q + 3) 6 0) _ _ (nn_f (by rcases hq with rfl | rfl <;> rfl) (nn_f (by rcases hq with rfl | rfl <;> rfl) (nn_f (by rcases hq with rfl | rfl <;> rfl) (nn_c (by decide) hN)))) (by decide : (0 : Int) ≤ (0 : Int32).toInt) (le_enough (by decide : (0 : Int) ≤ (0 : Int32).toInt)) ?_
    rw [(show (D_X10_take q s a1 a2) = (R_X10_take_107 q ((itr (uc2 (B_X10_take_40 q (-1))) BIG (0, (up (up (up (up s (q + 3) 3 0) (q + 3) 4 0) (q + 3) 5 (1 <<< (a1 &&& 31))) (q + 3) 6 0))).2)) from ((if_pos c0).trans rfl))]
    exact r_X10_take_107 hP hq (itr_inv2 (B := B_X10_take_40 q (-1)) (I := fun z4 zs => NN zs) (fun z4 zs hz => nb_X10_take_40 hq hz) BIG 0 (up (up (up (up s (q + 3) 3 0) (q + 3) 4 0) (q + 3) 5 (1 <<< (a1 &&& 31))) (q + 3) 6 0) (nn_f (by rcases hq with rfl | rfl <;> rfl) (nn_f (by rcases hq with rfl | rfl <;> rfl) (nn_f (by rcases hq with rfl | rfl <;> rfl) (nn_c (by decide) hN)))))
  · refine rx_icT rfl (nt c0) ?_
    refine rx_k 8 (40, [(4, .int 0), (3, .int ((1 <<< (a2 &&& 31)) ^^^ (-1))), (0, .ref (b + (q + 3))), (1, .int a1), (2, .int a2)], []) (fun _ _ => rfl) ?_
    refine rx_lo am_X10_take (lo := [(0, .ref (b + (q + 3))), (3, .int ((1 <<< (a2 &&& 31)) ^^^ (-1))), (4, .int 0)]) (List.forall_mem_cons.mpr ⟨List.mem_of_getElem? (i := 2) rfl, (List.forall_mem_cons.mpr ⟨List.mem_of_getElem? (i := 1) rfl, (List.forall_mem_cons.mpr ⟨List.mem_of_getElem? (i := 0) rfl, (fun _ h => absurd h List.not_mem_nil)⟩)⟩)⟩) rfl ?_
    refine rx_loop2s (B := B_X10_take_40 q ((1 <<< (a2 &&& 31)) ^^^ (-1))) (fr := (fr_X10_take_40 b w q ((1 <<< (a2 &&& 31)) ^^^ (-1)))) (E := (fe_X10_take_40 b w q ((1 <<< (a2 &&& 31)) ^^^ (-1)))) (I := fun z4 zs => NN zs) (fun z4 zs oo hh9 hI9 hv9 hc9 he9 => b_X10_take_40 hP hq oo hh9 hI9 hv9 hc9 he9) (fun z4 zs hz => nb_X10_take_40 hq hz) BIG 0 (up (up (up (up s (q + 3) 3 0) (q + 3) 4 0) (q + 3) 5 (1 <<< (a1 &&& 31))) (q + 3) 6 0) _ _ (nn_f (by rcases hq with rfl | rfl <;> rfl) (nn_f (by rcases hq with rfl | rfl <;> rfl) (nn_f (by rcases hq with rfl | rfl <;> rfl) (nn_c (by decide) hN)))) (by decide : (0 : Int) ≤ (0 : Int32).toInt) (le_enough (by decide : (0 : Int) ≤ (0 : Int32).toInt)) ?_
    rw [(show (D_X10_take q s a1 a2) = (R_X10_take_107 q ((itr (uc2 (B_X10_take_40 q ((1 <<< (a2 &&& 31)) ^^^ (-1)))) BIG (0, (up (up (up (up s (q + 3) 3 0) (q + 3) 4 0) (q + 3) 5 (1 <<< (a1 &&& 31))) (q + 3) 6 0))).2)) from ((if_neg c0).trans rfl))]
    exact r_X10_take_107 hP hq (itr_inv2 (B := B_X10_take_40 q ((1 <<< (a2 &&& 31)) ^^^ (-1))) (I := fun z4 zs => NN zs) (fun z4 zs hz => nb_X10_take_40 hq hz) BIG 0 (up (up (up (up s (q + 3) 3 0) (q + 3) 4 0) (q + 3) 5 (1 <<< (a1 &&& 31))) (q + 3) 6 0) (nn_f (by rcases hq with rfl | rfl <;> rfl) (nn_f (by rcases hq with rfl | rfl <;> rfl) (nn_f (by rcases hq with rfl | rfl <;> rfl) (nn_c (by decide) hN)))))
theorem rc_X10_take (hP : WOK b w H0) {q : Nat} (hq : q = 38 ∨ q = 60) {s : Sg} {a1 : Int32} {a2 : Int32} (hN : NN s) : Rc sc 5 153 [.ref (b + (q + 3)), .int a1, .int a2] (wd b w wl H0 s, kn) none (wd b w wl H0 (D_X10_take q s a1 a2), kn) := rx_mc (m_X10_take hP hq hN) rfl rfl (Nat.ble_eq_true_of_le (Nat.le_refl _)) (Nat.ble_eq_true_of_le (Nat.le_refl _))
theorem nn_X10_take {q : Nat} (hq : q = 38 ∨ q = 60) {s : Sg} {a1 : Int32} {a2 : Int32} (hN : NN s) : NN (D_X10_take q s a1 a2) := by
  by_cases c0 : a2 = (-1)
  · rw [show (D_X10_take q s a1 a2) = (R_X10_take_107 q ((itr (uc2 (B_X10_take_40 q (-1))) BIG (0, (up (up (up (up s (q + 3) 3 0) (q + 3) 4 0) (q + 3) 5 (1 <<< (a1 &&& 31))) (q + 3) 6 0))).2)) from ((if_pos c0).trans rfl)]
    exact (nr_X10_take_107 hq (itr_inv2 (B := B_X10_take_40 q (-1)) (I := fun z4 zs => NN zs) (fun z4 zs hz => nb_X10_take_40 hq hz) BIG 0 (up (up (up (up s (q + 3) 3 0) (q + 3) 4 0) (q + 3) 5 (1 <<< (a1 &&& 31))) (q + 3) 6 0) (nn_f (by rcases hq with rfl | rfl <;> rfl) (nn_f (by rcases hq with rfl | rfl <;> rfl) (nn_f (by rcases hq with rfl | rfl <;> rfl) (nn_c (by decide) hN))))))
  · rw [show (D_X10_take q s a1 a2) = (R_X10_take_107 q ((itr (uc2 (B_X10_take_40 q ((1 <<< (a2 &&& 31)) ^^^ (-1)))) BIG (0, (up (up (up (up s (q + 3) 3 0) (q + 3) 4 0) (q + 3) 5 (1 <<< (a1 &&& 31))) (q + 3) 6 0))).2)) from ((if_neg c0).trans rfl)]
    exact (nr_X10_take_107 hq (itr_inv2 (B := B_X10_take_40 q ((1 <<< (a2 &&& 31)) ^^^ (-1))) (I := fun z4 zs => NN zs) (fun z4 zs hz => nb_X10_take_40 hq hz) BIG 0 (up (up (up (up s (q + 3) 3 0) (q + 3) 4 0) (q + 3) 5 (1 <<< (a1 &&& 31))) (q + 3) 6 0) (nn_f (by rcases hq with rfl | rfl <;> rfl) (nn_f (by rcases hq with rfl | rfl <;> rfl) (nn_f (by rcases hq with rfl | rfl <;> rfl) (nn_c (by decide) hN))))))
theorem fwb_X10_take_40 {q : Nat} {a3 : Int32} {x4 : Int32} {s : Sg} {k j : Nat} (l3f3 : k ≠ q + 3 ∨ j ≠ 3) (l3f4 : k ≠ q + 3 ∨ j ≠ 4) (l3f5 : k ≠ q + 3 ∨ j ≠ 5) (l3f6 : k ≠ q + 3 ∨ j ≠ 6) (l4 : k ≠ q + 4) : ∃ (f : Bool) (t4 : Int32) (ts : Sg), (B_X10_take_40 q a3 x4 s) = (f, (t4, ts)) ∧ ts k j = s k j := by
  by_cases c0 : (D_X2_count s) ≤ x4
  · exact ⟨_, _, _, (show (B_X10_take_40 q a3 x4 s) = (false, (x4, s)) from ((if_pos c0).trans rfl)), rfl⟩
  · by_cases c1 : (D_X2_isPlain s x4) = 0
    · by_cases c2 : (D_X2_joinsAhead s x4) = 0
      · exact ⟨_, _, _, (show (B_X10_take_40 q a3 x4 s) = (true, ((x4 + 1), (D_X10_takeGroup q s x4 a3))) from ((if_neg c0).trans ((if_pos c1).trans ((if_pos c2).trans rfl)))), ((fw_X10_takeGroup l3f3 l3f4 l3f5 l3f6 l4).trans rfl)⟩
      · exact ⟨_, _, _, (show (B_X10_take_40 q a3 x4 s) = (true, ((x4 + 1), s)) from ((if_neg c0).trans ((if_pos c1).trans ((if_neg c2).trans rfl)))), rfl⟩
    · exact ⟨_, _, _, (show (B_X10_take_40 q a3 x4 s) = (true, ((x4 + 1), (D_X10_takeAll q s ((D_X2_set s x4) &&& a3)))) from ((if_neg c0).trans ((if_neg c1).trans rfl))), ((fw_X10_takeAll l3f3 l3f4 l3f5 l3f6 l4).trans rfl)⟩
theorem fwr_X10_take_107 {q : Nat} {s : Sg} {k j : Nat} (l3f3 : k ≠ q + 3 ∨ j ≠ 3) (l3f4 : k ≠ q + 3 ∨ j ≠ 4) (l3f5 : k ≠ q + 3 ∨ j ≠ 5) (l3f6 : k ≠ q + 3 ∨ j ≠ 6) (l4 : k ≠ q + 4) : (R_X10_take_107 q s) k j = s k j := by
  rw [show (R_X10_take_107 q s) = s from rfl]
  first | done | exact rfl
theorem fw_X10_take {q : Nat} {s : Sg} {a1 : Int32} {a2 : Int32} {k j : Nat} (l3f3 : k ≠ q + 3 ∨ j ≠ 3) (l3f4 : k ≠ q + 3 ∨ j ≠ 4) (l3f5 : k ≠ q + 3 ∨ j ≠ 5) (l3f6 : k ≠ q + 3 ∨ j ≠ 6) (l4 : k ≠ q + 4) : (D_X10_take q s a1 a2) k j = s k j := by
  by_cases c0 : a2 = (-1)
  · rw [show (D_X10_take q s a1 a2) = (R_X10_take_107 q ((itr (uc2 (B_X10_take_40 q (-1))) BIG (0, (up (up (up (up s (q + 3) 3 0) (q + 3) 4 0) (q + 3) 5 (1 <<< (a1 &&& 31))) (q + 3) 6 0))).2)) from ((if_pos c0).trans rfl)]
    first | done | exact ((fwr_X10_take_107 l3f3 l3f4 l3f5 l3f6 l4).trans ((itr_inv2 (B := B_X10_take_40 q (-1)) (I := fun z4 zs => zs k j = (up (up (up (up s (q + 3) 3 0) (q + 3) 4 0) (q + 3) 5 (1 <<< (a1 &&& 31))) (q + 3) 6 0) k j) (fun z4 zs hz => exq2 (fwb_X10_take_40 l3f3 l3f4 l3f5 l3f6 l4) hz) BIG 0 (up (up (up (up s (q + 3) 3 0) (q + 3) 4 0) (q + 3) 5 (1 <<< (a1 &&& 31))) (q + 3) 6 0) rfl).trans ((up_f l3f6).trans ((up_f l3f5).trans ((up_f l3f4).trans ((up_f l3f3).trans rfl))))))
  · rw [show (D_X10_take q s a1 a2) = (R_X10_take_107 q ((itr (uc2 (B_X10_take_40 q ((1 <<< (a2 &&& 31)) ^^^ (-1)))) BIG (0, (up (up (up (up s (q + 3) 3 0) (q + 3) 4 0) (q + 3) 5 (1 <<< (a1 &&& 31))) (q + 3) 6 0))).2)) from ((if_neg c0).trans rfl)]
    first | done | exact ((fwr_X10_take_107 l3f3 l3f4 l3f5 l3f6 l4).trans ((itr_inv2 (B := B_X10_take_40 q ((1 <<< (a2 &&& 31)) ^^^ (-1))) (I := fun z4 zs => zs k j = (up (up (up (up s (q + 3) 3 0) (q + 3) 4 0) (q + 3) 5 (1 <<< (a1 &&& 31))) (q + 3) 6 0) k j) (fun z4 zs hz => exq2 (fwb_X10_take_40 l3f3 l3f4 l3f5 l3f6 l4) hz) BIG 0 (up (up (up (up s (q + 3) 3 0) (q + 3) 4 0) (q + 3) 5 (1 <<< (a1 &&& 31))) (q + 3) 6 0) rfl).trans ((up_f l3f6).trans ((up_f l3f5).trans ((up_f l3f4).trans ((up_f l3f3).trans rfl))))))
end DD
