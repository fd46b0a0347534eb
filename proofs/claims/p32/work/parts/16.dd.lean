section DD
variable {sc : Nat × (Nat → Int32)} {b w wl : Nat} {H0 : List EC} {kn : Nat × Nat}
-- LinkHarbour$LibraryTable.add
def fr_X4_add_67 (b w : Nat) (a3 : Int32) (x4 : Int32) : EF := (67, [(0, .ref (b + 23)), (1, .ref (b + 38)), (3, .int a3), (4, .int x4)], [])
def fe_X4_add_67 (b w : Nat) (a3 : Int32) (x4 : Int32) : EF := (136, [(3, .int a3)], [])
noncomputable def B_X4_add_67 (a3 : Int32) (x4 : Int32) (s : Sg) : Bool × (Int32 × Sg) := (if 20 ≤ x4 then (false, (x4, s)) else (if (D_X3_addressOfName 38 s x4) = (-1) then (true, ((x4 + 1), s)) else (if (D_X9_isHidden 38 s x4) = 0 then (true, ((x4 + 1), (up (up s 26 a3.toNatClampNeg ((s 26 a3.toNatClampNeg) ||| (1 <<< (x4 &&& 31)))) 28 ((a3 * 20) + x4).toNatClampNeg (D_X3_addressOfName 38 s x4)))) else (true, ((x4 + 1), s)))))
theorem b_X4_add_67 (hP : WOK b w H0) {s : Sg} {a3 : Int32} {x4 : Int32} (h3 : rg a3 6) (o : Option Value) (h' : EH) (hN : NN s) (hv : 0 ≤ x4.toInt) (hc : ∀ (t4 : Int32) (ts : Sg), (B_X4_add_67 a3 x4 s) = (true, (t4, ts)) → x4.toInt < 2147483647 → t4 = x4 + 1 → Rx sc g_X4_add 2 (fr_X4_add_67 b w a3 t4) (wd b w wl H0 ts, kn) o h') (he : ∀ (t4 : Int32) (ts : Sg), (B_X4_add_67 a3 x4 s) = (false, (t4, ts)) → Rx sc g_X4_add 2 (fe_X4_add_67 b w a3 t4) (wd b w wl H0 ts, kn) o h') : Rx sc g_X4_add 2 (fr_X4_add_67 b w a3 x4) (wd b w wl H0 s, kn) o h' := by
  show Rx sc g_X4_add 2 (67, [(0, .ref (b + 23)), (1, .ref (b + 38)), (3, .int a3), (4, .int x4)], []) (wd b w wl H0 s, kn) o h'
  refine rx_k 2 (71, [(0, .ref (b + 23)), (1, .ref (b + 38)), (3, .int a3), (4, .int x4)], [.int 20, .int x4]) (fun _ _ => rfl) ?_
  by_cases c0 : 20 ≤ x4
  · refine rx_icT rfl (bt c0) ?_
    exact rx_lo am_X4_add (lo := [(3, .int a3)]) (List.forall_mem_cons.mpr ⟨List.mem_of_getElem? (i := 2) rfl, (fun _ h => absurd h List.not_mem_nil)⟩) rfl (he _ _ (show (B_X4_add_67 a3 x4 s) = (false, (x4, s)) from ((if_pos c0).trans rfl)))
  · refine rx_icF rfl (bf c0) rfl ?_
    refine rx_k 1 (75, [(0, .ref (b + 23)), (1, .ref (b + 38)), (3, .int a3), (4, .int x4)], [.ref (b + 38)]) (fun _ _ => rfl) ?_
    refine rx_getf rfl rfl (wl_0 hP (Or.inl rfl)) rfl ?_
    refine rx_k 1 (80, [(0, .ref (b + 23)), (1, .ref (b + 38)), (3, .int a3), (4, .int x4)], [.int x4, .ref (b + (38 + 15))]) (fun _ _ => rfl) ?_
    refine rx_inv rfl rfl (rc_X3_addressOfName hP (Or.inl rfl)) rfl rfl rfl (q_recv (wl_15 hP (Or.inl rfl))) rfl rfl ?_
    refine rx_k 3 (88, [(5, .int (D_X3_addressOfName 38 s x4)), (0, .ref (b + 23)), (1, .ref (b + 38)), (3, .int a3), (4, .int x4)], [.int (-1), .int (D_X3_addressOfName 38 s x4)]) (fun _ _ => rfl) ?_
    by_cases c1 : (D_X3_addressOfName 38 s x4) = (-1)
    · refine rx_icT rfl (bt c1) ?_
      refine rx_k 2 (67, [(4, .int (x4 + 1)), (5, .int (D_X3_addressOfName 38 s x4)), (0, .ref (b + 23)), (1, .ref (b + 38)), (3, .int a3)], []) (fun _ _ => rfl) ?_
      refine rx_lo am_X4_add (lo := [(0, .ref (b + 23)), (1, .ref (b + 38)), (3, .int a3), (4, .int (x4 + 1))]) (List.forall_mem_cons.mpr ⟨List.mem_of_getElem? (i := 2) rfl, (List.forall_mem_cons.mpr ⟨List.mem_of_getElem? (i := 3) rfl, (List.forall_mem_cons.mpr ⟨List.mem_of_getElem? (i := 4) rfl, (List.forall_mem_cons.mpr ⟨List.mem_of_getElem? (i := 0) rfl, (fun _ h => absurd h List.not_mem_nil)⟩)⟩)⟩)⟩) rfl (hc _ _ (show (B_X4_add_67 a3 x4 s) = (true, ((x4 + 1), s)) from ((if_neg c0).trans ((if_pos c1).trans rfl))) (lt_nle c0) rfl)
    · refine rx_icF rfl (bf c1) rfl ?_
      refine rx_k 1 (92, [(5, .int (D_X3_addressOfName 38 s x4)), (0, .ref (b + 23)), (1, .ref (b + 38)), (3, .int a3), (4, .int x4)], [.ref (b + 38)]) (fun _ _ => rfl) ?_
      refine rx_getf rfl rfl (wl_0 hP (Or.inl rfl)) rfl ?_
      refine rx_k 1 (97, [(5, .int (D_X3_addressOfName 38 s x4)), (0, .ref (b + 23)), (1, .ref (b + 38)), (3, .int a3), (4, .int x4)], [.int x4, .ref (b + (38 + 5))]) (fun _ _ => rfl) ?_
      refine rx_inv rfl rfl (rc_X9_isHidden hP (Or.inl rfl)) rfl rfl rfl (q_recv (wl_5 hP (Or.inl rfl))) rfl rfl ?_
      by_cases c2 : (D_X9_isHidden 38 s x4) = 0
      · refine rx_ifF rfl (nf c2) rfl ?_
        refine rx_k 1 (104, [(5, .int (D_X3_addressOfName 38 s x4)), (0, .ref (b + 23)), (1, .ref (b + 38)), (3, .int a3), (4, .int x4)], [.ref (b + 23)]) (fun _ _ => rfl) ?_
        refine rx_getf rfl rfl (wg_23 hP) rfl ?_
        refine rx_k 2 (109, [(5, .int (D_X3_addressOfName 38 s x4)), (0, .ref (b + 23)), (1, .ref (b + 38)), (3, .int a3), (4, .int x4)], [.int a3, .ref (b + 26), .int a3, .ref (b + 26)]) (fun _ _ => rfl) ?_
        refine rx_ild rfl rfl (wg_26 hP) (ar_at h3) ?_
        refine rx_k 4 (115, [(5, .int (D_X3_addressOfName 38 s x4)), (0, .ref (b + 23)), (1, .ref (b + 38)), (3, .int a3), (4, .int x4)], [.int ((s 26 a3.toNatClampNeg) ||| (1 <<< (x4 &&& 31))), .int a3, .ref (b + 26)]) (fun _ _ => rfl) ?_
        refine rx_ist rfl rfl (wg_26 hP) rfl (ar_at h3) (ws_26 hP h3) ?_
        refine rx_k 1 (117, [(5, .int (D_X3_addressOfName 38 s x4)), (0, .ref (b + 23)), (1, .ref (b + 38)), (3, .int a3), (4, .int x4)], [.ref (b + 23)]) (fun _ _ => rfl) ?_
        refine rx_getf rfl rfl (wg_23 hP) rfl ?_
        refine rx_k 6 (129, [(5, .int (D_X3_addressOfName 38 s x4)), (0, .ref (b + 23)), (1, .ref (b + 38)), (3, .int a3), (4, .int x4)], [.int (D_X3_addressOfName 38 s x4), .int ((a3 * 20) + x4), .ref (b + 28)]) (fun _ _ => rfl) ?_
        refine rx_ist rfl rfl (wg_28 hP) rfl (ar_at (i_mul_add 20 20 rfl h3 (rg_c hv c0 (m := 20) (n := 20) rfl) (by decide) (by decide))) (ws_28 hP (i_mul_add 20 20 rfl h3 (rg_c hv c0 (m := 20) (n := 20) rfl) (by decide) (by decide))) ?_
        refine rx_k 2 (67, [(4, .int (x4 + 1)), (5, .int (D_X3_addressOfName 38 s x4)), (0, .ref (b + 23)), (1, .ref (b + 38)), (3, .int a3)], []) (fun _ _ => rfl) ?_
        refine rx_lo am_X4_add (lo := [(0, .ref (b + 23)), (1, .ref (b + 38)), (3, .int a3), (4, .int (x4 + 1))]) (List.forall_mem_cons.mpr ⟨List.mem_of_getElem? (i := 2) rfl, (List.forall_mem_cons.mpr ⟨List.mem_of_getElem? (i := 3) rfl, (List.forall_mem_cons.mpr ⟨List.mem_of_getElem? (i := 4) rfl, (List.forall_mem_cons.mpr ⟨List.mem_of_getElem? (i := 0) rfl, (fun _ h => absurd h List.not_mem_nil)⟩)⟩)⟩)⟩) rfl (hc _ _ (show (B_X4_add_67 a3 x4 s) = (true, ((x4 + 1), (up (up s 26 a3.toNatClampNeg ((s 26 a3.toNatClampNeg) ||| (1 <<< (x4 &&& 31)))) 28 ((a3 * 20) + x4).toNatClampNeg (D_X3_addressOfName 38 s x4)))) from ((if_neg c0).trans ((if_neg c1).trans ((if_pos c2).trans rfl)))) (lt_nle c0) rfl)
      · refine rx_ifT rfl (nt c2) ?_
        refine rx_k 2 (67, [(4, .int (x4 + 1)), (5, .int (D_X3_addressOfName 38 s x4)), (0, .ref (b + 23)), (1, .ref (b + 38)), (3, .int a3)], []) (fun _ _ => rfl) ?_
        refine rx_lo am_X4_add (lo := [(0, .ref (b + 23)), (1, .ref (b + 38)), (3, .int a3), (4, .int (x4 + 1))]) (List.forall_mem_cons.mpr ⟨List.mem_of_getElem? (i := 2) rfl, (List.forall_mem_cons.mpr ⟨List.mem_of_getElem? (i := 3) rfl, (List.forall_mem_cons.mpr ⟨List.mem_of_getElem? (i := 4) rfl, (List.forall_mem_cons.mpr ⟨List.mem_of_getElem? (i := 0) rfl, (fun _ h => absurd h List.not_mem_nil)⟩)⟩)⟩)⟩) rfl (hc _ _ (show (B_X4_add_67 a3 x4 s) = (true, ((x4 + 1), s)) from ((if_neg c0).trans ((if_neg c1).trans ((if_neg c2).trans rfl)))) (lt_nle c0) rfl)
theorem nb_X4_add_67 {a3 : Int32} {x4 : Int32} {s : Sg} (hN : NN s) : ∃ (f : Bool) (t4 : Int32) (ts : Sg), (B_X4_add_67 a3 x4 s) = (f, (t4, ts)) ∧ NN ts := by
  by_cases c0 : 20 ≤ x4
  · exact ⟨_, _, _, (show (B_X4_add_67 a3 x4 s) = (false, (x4, s)) from ((if_pos c0).trans rfl)), hN⟩
  · by_cases c1 : (D_X3_addressOfName 38 s x4) = (-1)
    · exact ⟨_, _, _, (show (B_X4_add_67 a3 x4 s) = (true, ((x4 + 1), s)) from ((if_neg c0).trans ((if_pos c1).trans rfl))), hN⟩
    · by_cases c2 : (D_X9_isHidden 38 s x4) = 0
      · exact ⟨_, _, _, (show (B_X4_add_67 a3 x4 s) = (true, ((x4 + 1), (up (up s 26 a3.toNatClampNeg ((s 26 a3.toNatClampNeg) ||| (1 <<< (x4 &&& 31)))) 28 ((a3 * 20) + x4).toNatClampNeg (D_X3_addressOfName 38 s x4)))) from ((if_neg c0).trans ((if_neg c1).trans ((if_pos c2).trans rfl)))), (nn_0 rfl (nn_0 rfl hN))⟩
      · exact ⟨_, _, _, (show (B_X4_add_67 a3 x4 s) = (true, ((x4 + 1), s)) from ((if_neg c0).trans ((if_neg c1).trans ((if_neg c2).trans rfl)))), hN⟩
noncomputable def R_X4_add_136 (s : Sg) (a3 : Int32) : Int32 × Sg := (a3, s)
theorem r_X4_add_136 (hP : WOK b w H0) {s : Sg} {a3 : Int32} (h3 : rg a3 6) (hN : NN s) : Rx sc g_X4_add 2 ((136, [(3, .int a3)], [])) (wd b w wl H0 s, kn) (some (.int (R_X4_add_136 s a3).1)) (wd b w wl H0 (R_X4_add_136 s a3).2, kn) := by
  show Rx sc g_X4_add 2 (136, [(3, .int a3)], []) (wd b w wl H0 s, kn) (some (.int (R_X4_add_136 s a3).1)) (wd b w wl H0 (R_X4_add_136 s a3).2, kn)
  refine rx_k 1 (137, [(3, .int a3)], [.int a3]) (fun _ _ => rfl) ?_
  rw [(show (R_X4_add_136 s a3) = (a3, s) from rfl)]
  exact rx_ri rfl
theorem nr_X4_add_136 {s : Sg} {a3 : Int32} (hN : NN s) : NN ((R_X4_add_136 s a3).2) := by
  exact pair_of (P := fun zs => NN zs) (show (R_X4_add_136 s a3) = (a3, s) from rfl) hN
noncomputable def D_X4_add (s : Sg) (a2 : Int32) : Int32 × Sg := (if (D_X4_isFull s) = 0 then (R_X4_add_136 ((itr (uc2 (B_X4_add_67 (s 23 13))) BIG (0, (up (up (up (up (up s 23 13 ((s 23 13) + 1)) 24 (s 23 13).toNatClampNeg (D_X3_size 38 (up s 23 13 ((s 23 13) + 1)))) 25 (s 23 13).toNatClampNeg a2) 27 (s 23 13).toNatClampNeg (D_X7_imports 38 (up (up (up s 23 13 ((s 23 13) + 1)) 24 (s 23 13).toNatClampNeg (D_X3_size 38 (up s 23 13 ((s 23 13) + 1)))) 25 (s 23 13).toNatClampNeg a2))) 26 (s 23 13).toNatClampNeg 0))).2) (s 23 13)) else ((-1), s))
theorem m_X4_add (hP : WOK b w H0) {s : Sg} {a2 : Int32} (hN : NN s) : Rx sc g_X4_add 2 ((0, [(0, .ref (b + 23)), (1, .ref (b + 38)), (2, .int a2)], [])) (wd b w wl H0 s, kn) (some (.int (D_X4_add s a2).1)) (wd b w wl H0 (D_X4_add s a2).2, kn) := by
  show Rx sc g_X4_add 2 (0, [(0, .ref (b + 23)), (1, .ref (b + 38)), (2, .int a2)], []) (wd b w wl H0 s, kn) (some (.int (D_X4_add s a2).1)) (wd b w wl H0 (D_X4_add s a2).2, kn)
  refine rx_k 1 (1, [(0, .ref (b + 23)), (1, .ref (b + 38)), (2, .int a2)], [.ref (b + 23)]) (fun _ _ => rfl) ?_
  refine rx_inv rfl rfl (rc_X4_isFull hP) rfl rfl rfl (q_recv (wg_23 hP)) rfl rfl ?_
  by_cases c0 : (D_X4_isFull s) = 0
  · refine rx_ifT rfl (bt c0) ?_
    refine rx_k 1 (10, [(0, .ref (b + 23)), (1, .ref (b + 38)), (2, .int a2)], [.ref (b + 23)]) (fun _ _ => rfl) ?_
    refine rx_getf rfl rfl (wg_23 hP) rfl ?_
    refine rx_k 3 (16, [(3, .int (s 23 13)), (0, .ref (b + 23)), (1, .ref (b + 38)), (2, .int a2)], [.ref (b + 23), .ref (b + 23)]) (fun _ _ => rfl) ?_
    refine rx_getf rfl rfl (wg_23 hP) rfl ?_
    refine rx_k 2 (21, [(3, .int (s 23 13)), (0, .ref (b + 23)), (1, .ref (b + 38)), (2, .int a2)], [.int ((s 23 13) + 1), .ref (b + 23)]) (fun _ _ => rfl) ?_
    refine rx_putf rfl rfl (wg_23 hP) rfl (ws_23_13 hP) ?_
    refine rx_k 1 (25, [(3, .int (s 23 13)), (0, .ref (b + 23)), (1, .ref (b + 38)), (2, .int a2)], [.ref (b + 23)]) (fun _ _ => rfl) ?_
    refine rx_getf rfl rfl (wg_23 hP) rfl ?_
    refine rx_k 2 (30, [(3, .int (s 23 13)), (0, .ref (b + 23)), (1, .ref (b + 38)), (2, .int a2)], [.ref (b + 38), .int (s 23 13), .ref (b + 24)]) (fun _ _ => rfl) ?_
    refine rx_getf rfl rfl (wl_0 hP (Or.inl rfl)) rfl ?_
    refine rx_inv rfl rfl (rc_X3_size hP (Or.inl rfl)) rfl rfl rfl (q_recv (wl_15 hP (Or.inl rfl))) rfl rfl ?_
    refine rx_ist rfl rfl (wg_24 hP) rfl (ar_at (rg_c (hN 23 13 rfl) (nf_X4_isFull c0) (m := 6) (n := 6) rfl)) (ws_24 hP (rg_c (hN 23 13 rfl) (nf_X4_isFull c0) (m := 6) (n := 6) rfl)) ?_
    refine rx_k 1 (38, [(3, .int (s 23 13)), (0, .ref (b + 23)), (1, .ref (b + 38)), (2, .int a2)], [.ref (b + 23)]) (fun _ _ => rfl) ?_
    refine rx_getf rfl rfl (wg_23 hP) rfl ?_
    refine rx_k 2 (43, [(3, .int (s 23 13)), (0, .ref (b + 23)), (1, .ref (b + 38)), (2, .int a2)], [.int a2, .int (s 23 13), .ref (b + 25)]) (fun _ _ => rfl) ?_
    refine rx_ist rfl rfl (wg_25 hP) rfl (ar_at (rg_c (hN 23 13 rfl) (nf_X4_isFull c0) (m := 6) (n := 6) rfl)) (ws_25 hP (rg_c (hN 23 13 rfl) (nf_X4_isFull c0) (m := 6) (n := 6) rfl)) ?_
    refine rx_k 1 (45, [(3, .int (s 23 13)), (0, .ref (b + 23)), (1, .ref (b + 38)), (2, .int a2)], [.ref (b + 23)]) (fun _ _ => rfl) ?_
    refine rx_getf rfl rfl (wg_23 hP) rfl ?_
    refine rx_k 2 (50, [(3, .int (s 23 13)), (0, .ref (b + 23)), (1, .ref (b + 38)), (2, .int a2)], [.ref (b + 38), .int (s 23 13), .ref (b + 27)]) (fun _ _ => rfl) ?_
    refine rx_getf rfl rfl (wl_0 hP (Or.inl rfl)) rfl ?_
    refine rx_inv rfl rfl (rc_X7_imports hP (Or.inl rfl)) rfl rfl rfl (q_recv (wl_12 hP (Or.inl rfl))) rfl rfl ?_
    refine rx_ist rfl rfl (wg_27 hP) rfl (ar_at (rg_c (hN 23 13 rfl) (nf_X4_isFull c0) (m := 6) (n := 6) rfl)) (ws_27 hP (rg_c (hN 23 13 rfl) (nf_X4_isFull c0) (m := 6) (n := 6) rfl)) ?_
    refine rx_k 1 (58, [(3, .int (s 23 13)), (0, .ref (b + 23)), (1, .ref (b + 38)), (2, .int a2)], [.ref (b + 23)]) (fun _ _ => rfl) ?_
    refine rx_getf rfl rfl (wg_23 hP) rfl ?_
    refine rx_k 2 (63, [(3, .int (s 23 13)), (0, .ref (b + 23)), (1, .ref (b + 38)), (2, .int a2)], [.int 0, .int (s 23 13), .ref (b + 26)]) (fun _ _ => rfl) ?_
    refine rx_ist rfl rfl (wg_26 hP) rfl (ar_at (rg_c (hN 23 13 rfl) (nf_X4_isFull c0) (m := 6) (n := 6) rfl)) (ws_26 hP (rg_c (hN 23 13 rfl) (nf_X4_isFull c0) (m := 6) (n := 6) rfl)) ?_
    refine rx_k 2 (67, [(4, .int 0), (3, .int (s 23 13)), (0, .ref (b + 23)), (1, .ref (b + 38)), (2, .int a2)], []) (fun _ _ => rfl) ?_
    refine rx_lo am_X4_add (lo := [(0, .ref (b + 23)), (1, .ref (b + 38)), (3, .int (s 23 13)), (4, .int 0)]) (List.forall_mem_cons.mpr ⟨List.mem_of_getElem? (i := 2) rfl, (List.forall_mem_cons.mpr ⟨List.mem_of_getElem? (i := 3) rfl, (List.forall_mem_cons.mpr ⟨List.mem_of_getElem? (i := 1) rfl, (List.forall_mem_cons.mpr ⟨List.mem_of_getElem? (i := 0) rfl, (fun _ h => absurd h List.not_mem_nil)⟩)⟩)⟩)⟩) rfl ?_
    refine rx_loop2s (B := B_X4_add_67 (s 23 13)) (fr := (fr_X4_add_67 b w (s 23 13))) (E := (fe_X4_add_67 b w (s 23 13))) (I := fun z4 zs => NN zs) (fun z4 zs oo hh9 hI9 hv9 hc9 he9 => b_X4_add_67 hP (rg_c (hN 23 13 rfl) (nf_X4_isFull c0) (m := 6) (n := 6) rfl) oo hh9 hI9 hv9 hc9 he9) (fun z4 zs hz => nb_X4_add_67 hz) BIG 0 (up (up (up (up (up s 23 13 ((s 23 13) + 1)) 24 (s 23 13).toNatClampNeg (D_X3_size 38 (up s 23 13 ((s 23 13) + 1)))) 25 (s 23 13).toNatClampNeg a2) 27 (s 23 13).toNatClampNeg (D_X7_imports 38 (up (up (up s 23 13 ((s 23 13) + 1)) 24 (s 23 13).toNatClampNeg (D_X3_size 38 (up s 23 13 ((s 23 13) + 1)))) 25 (s 23 13).toNatClampNeg a2))) 26 (s 23 13).toNatClampNeg 0) _ _ (nn_0 rfl (nn_0 rfl (nn_0 rfl (nn_0 rfl (nn_c (nn_inc (rg_c (hN 23 13 rfl) (nf_X4_isFull c0) (m := 6) (n := 6) rfl).1 (lt_nle (nf_X4_isFull c0)) (by decide)) hN))))) (by decide : (0 : Int) ≤ (0 : Int32).toInt) (le_enough (by decide : (0 : Int) ≤ (0 : Int32).toInt)) ?_
    rw [(show (D_X4_add s a2) = (R_X4_add_136 ((itr (uc2 (B_X4_add_67 (s 23 13))) BIG (0, (up (up (up (up (up s 23 13 ((s 23 13) + 1)) 24 (s 23 13).toNatClampNeg (D_X3_size 38 (up s 23 13 ((s 23 13) + 1)))) 25 (s 23 13).toNatClampNeg a2) 27 (s 23 13).toNatClampNeg (D_X7_imports 38 (up (up (up s 23 13 ((s 23 13) + 1)) 24 (s 23 13).toNatClampNeg (D_X3_size 38 (up s 23 13 ((s 23 13) + 1)))) 25 (s 23 13).toNatClampNeg a2))) 26 (s 23 13).toNatClampNeg 0))).2) (s 23 13)) from ((if_pos c0).trans rfl))]
    exact r_X4_add_136 hP (rg_c (hN 23 13 rfl) (nf_X4_isFull c0) (m := 6) (n := 6) rfl) (itr_inv2 (B := B_X4_add_67 (s 23 13)) (I := fun z4 zs => NN zs) (fun z4 zs hz => nb_X4_add_67 hz) BIG 0 (up (up (up (up (up s 23 13 ((s 23 13) + 1)) 24 (s 23 13).toNatClampNeg (D_X3_size 38 (up s 23 13 ((s 23 13) + 1)))) 25 (s 23 13).toNatClampNeg a2) 27 (s 23 13).toNatClampNeg (D_X7_imports 38 (up (up (up s 23 13 ((s 23 13) + 1)) 24 (s 23 13).toNatClampNeg (D_X3_size 38 (up s 23 13 ((s 23 13) + 1)))) 25 (s 23 13).toNatClampNeg a2))) 26 (s 23 13).toNatClampNeg 0) (nn_0 rfl (nn_0 rfl (nn_0 rfl (nn_0 rfl (nn_c (nn_inc (rg_c (hN 23 13 rfl) (nf_X4_isFull c0) (m := 6) (n := 6) rfl).1 (lt_nle (nf_X4_isFull c0)) (by decide)) hN))))))
  · refine rx_ifF rfl (bf c0) rfl ?_
    refine rx_k 1 (8, [(0, .ref (b + 23)), (1, .ref (b + 38)), (2, .int a2)], [.int (-1)]) (fun _ _ => rfl) ?_
    rw [(show (D_X4_add s a2) = ((-1), s) from ((if_neg c0).trans rfl))]
    exact rx_ri rfl
theorem rc_X4_add (hP : WOK b w H0) {s : Sg} {a2 : Int32} (hN : NN s) : Rc sc 3 62 [.ref (b + 23), .ref (b + 38), .int a2] (wd b w wl H0 s, kn) (some (.int (D_X4_add s a2).1)) (wd b w wl H0 (D_X4_add s a2).2, kn) := rx_mc (m_X4_add hP hN) rfl rfl (Nat.ble_eq_true_of_le (Nat.le_refl _)) (Nat.ble_eq_true_of_le (Nat.le_refl _))
theorem nn_X4_add {s : Sg} {a2 : Int32} (hN : NN s) : NN (D_X4_add s a2).2 := by
  by_cases c0 : (D_X4_isFull s) = 0
  · rw [show (D_X4_add s a2) = (R_X4_add_136 ((itr (uc2 (B_X4_add_67 (s 23 13))) BIG (0, (up (up (up (up (up s 23 13 ((s 23 13) + 1)) 24 (s 23 13).toNatClampNeg (D_X3_size 38 (up s 23 13 ((s 23 13) + 1)))) 25 (s 23 13).toNatClampNeg a2) 27 (s 23 13).toNatClampNeg (D_X7_imports 38 (up (up (up s 23 13 ((s 23 13) + 1)) 24 (s 23 13).toNatClampNeg (D_X3_size 38 (up s 23 13 ((s 23 13) + 1)))) 25 (s 23 13).toNatClampNeg a2))) 26 (s 23 13).toNatClampNeg 0))).2) (s 23 13)) from ((if_pos c0).trans rfl)]
    exact (nr_X4_add_136 (itr_inv2 (B := B_X4_add_67 (s 23 13)) (I := fun z4 zs => NN zs) (fun z4 zs hz => nb_X4_add_67 hz) BIG 0 (up (up (up (up (up s 23 13 ((s 23 13) + 1)) 24 (s 23 13).toNatClampNeg (D_X3_size 38 (up s 23 13 ((s 23 13) + 1)))) 25 (s 23 13).toNatClampNeg a2) 27 (s 23 13).toNatClampNeg (D_X7_imports 38 (up (up (up s 23 13 ((s 23 13) + 1)) 24 (s 23 13).toNatClampNeg (D_X3_size 38 (up s 23 13 ((s 23 13) + 1)))) 25 (s 23 13).toNatClampNeg a2))) 26 (s 23 13).toNatClampNeg 0) (nn_0 rfl (nn_0 rfl (nn_0 rfl (nn_0 rfl (nn_c (nn_inc (rg_c (hN 23 13 rfl) (nf_X4_isFull c0) (m := 6) (n := 6) rfl).1 (lt_nle (nf_X4_isFull c0)) (by decide)) hN)))))))
  · exact pair_of (P := fun zs => NN zs) (show (D_X4_add s a2) = ((-1), s) from ((if_neg c0).trans rfl)) hN
theorem fwb_X4_add_67 {a3 : Int32} {x4 : Int32} {s : Sg} {k j : Nat} (h23f13 : k ≠ 23 ∨ j ≠ 13) (h24 : k ≠ 24) (h25 : k ≠ 25) (h26 : k ≠ 26) (h27 : k ≠ 27) (h28 : k ≠ 28) : ∃ (f : Bool) (t4 : Int32) (ts : Sg), (B_X4_add_67 a3 x4 s) = (f, (t4, ts)) ∧ ts k j = s k j := by
  by_cases c0 : 20 ≤ x4
  · exact ⟨_, _, _, (show (B_X4_add_67 a3 x4 s) = (false, (x4, s)) from ((if_pos c0).trans rfl)), rfl⟩
  · by_cases c1 : (D_X3_addressOfName 38 s x4) = (-1)
    · exact ⟨_, _, _, (show (B_X4_add_67 a3 x4 s) = (true, ((x4 + 1), s)) from ((if_neg c0).trans ((if_pos c1).trans rfl))), rfl⟩
    · by_cases c2 : (D_X9_isHidden 38 s x4) = 0
      · exact ⟨_, _, _, (show (B_X4_add_67 a3 x4 s) = (true, ((x4 + 1), (up (up s 26 a3.toNatClampNeg ((s 26 a3.toNatClampNeg) ||| (1 <<< (x4 &&& 31)))) 28 ((a3 * 20) + x4).toNatClampNeg (D_X3_addressOfName 38 s x4)))) from ((if_neg c0).trans ((if_neg c1).trans ((if_pos c2).trans rfl)))), ((up_a h28).trans ((up_a h26).trans rfl))⟩
      · exact ⟨_, _, _, (show (B_X4_add_67 a3 x4 s) = (true, ((x4 + 1), s)) from ((if_neg c0).trans ((if_neg c1).trans ((if_neg c2).trans rfl)))), rfl⟩
theorem fwr_X4_add_136 {s : Sg} {a3 : Int32} {k j : Nat} (h23f13 : k ≠ 23 ∨ j ≠ 13) (h24 : k ≠ 24) (h25 : k ≠ 25) (h26 : k ≠ 26) (h27 : k ≠ 27) (h28 : k ≠ 28) : (R_X4_add_136 s a3).2 k j = s k j := by
  exact pair_of (P := fun zs => zs k j = s k j) (show (R_X4_add_136 s a3) = (a3, s) from rfl) rfl
theorem fw_X4_add {s : Sg} {a2 : Int32} {k j : Nat} (h23f13 : k ≠ 23 ∨ j ≠ 13) (h24 : k ≠ 24) (h25 : k ≠ 25) (h26 : k ≠ 26) (h27 : k ≠ 27) (h28 : k ≠ 28) : (D_X4_add s a2).2 k j = s k j := by
  by_cases c0 : (D_X4_isFull s) = 0
  · rw [show (D_X4_add s a2) = (R_X4_add_136 ((itr (uc2 (B_X4_add_67 (s 23 13))) BIG (0, (up (up (up (up (up s 23 13 ((s 23 13) + 1)) 24 (s 23 13).toNatClampNeg (D_X3_size 38 (up s 23 13 ((s 23 13) + 1)))) 25 (s 23 13).toNatClampNeg a2) 27 (s 23 13).toNatClampNeg (D_X7_imports 38 (up (up (up s 23 13 ((s 23 13) + 1)) 24 (s 23 13).toNatClampNeg (D_X3_size 38 (up s 23 13 ((s 23 13) + 1)))) 25 (s 23 13).toNatClampNeg a2))) 26 (s 23 13).toNatClampNeg 0))).2) (s 23 13)) from ((if_pos c0).trans rfl)]
    first | done | exact ((fwr_X4_add_136 h23f13 h24 h25 h26 h27 h28).trans ((itr_inv2 (B := B_X4_add_67 (s 23 13)) (I := fun z4 zs => zs k j = (up (up (up (up (up s 23 13 ((s 23 13) + 1)) 24 (s 23 13).toNatClampNeg (D_X3_size 38 (up s 23 13 ((s 23 13) + 1)))) 25 (s 23 13).toNatClampNeg a2) 27 (s 23 13).toNatClampNeg (D_X7_imports 38 (up (up (up s 23 13 ((s 23 13) + 1)) 24 (s 23 13).toNatClampNeg (D_X3_size 38 (up s 23 13 ((s 23 13) + 1)))) 25 (s 23 13).toNatClampNeg a2))) 26 (s 23 13).toNatClampNeg 0) k j) (fun z4 zs hz => exq2 (fwb_X4_add_67 h23f13 h24 h25 h26 h27 h28) hz) BIG 0 (up (up (up (up (up s 23 13 ((s 23 13) + 1)) 24 (s 23 13).toNatClampNeg (D_X3_size 38 (up s 23 13 ((s 23 13) + 1)))) 25 (s 23 13).toNatClampNeg a2) 27 (s 23 13).toNatClampNeg (D_X7_imports 38 (up (up (up s 23 13 ((s 23 13) + 1)) 24 (s 23 13).toNatClampNeg (D_X3_size 38 (up s 23 13 ((s 23 13) + 1)))) 25 (s 23 13).toNatClampNeg a2))) 26 (s 23 13).toNatClampNeg 0) rfl).trans ((up_a h26).trans ((up_a h27).trans ((up_a h25).trans ((up_a h24).trans ((up_f h23f13).trans rfl)))))))
  · exact pair_of (P := fun zs => zs k j = s k j) (show (D_X4_add s a2) = ((-1), s) from ((if_neg c0).trans rfl)) rfl
-- LinkHarbour$LibraryTable.neededNow
noncomputable def D_X4_neededNow (s : Sg) (a1 : Int32) : Int32 := (if (D_X4_has s a1) = 0 then 0 else ((s 25 a1.toNatClampNeg) &&& ((1 <<< ((s 23 13) &&& 31)) - 1)))
theorem m_X4_neededNow (hP : WOK b w H0) {s : Sg} {a1 : Int32} : Rx sc g_X4_neededNow 1 ((0, [(0, .ref (b + 23)), (1, .int a1)], [])) (wd b w wl H0 s, kn) (some (.int (D_X4_neededNow s a1))) (wd b w wl H0 s, kn) := by
  show Rx sc g_X4_neededNow 1 (0, [(0, .ref (b + 23)), (1, .int a1)], []) (wd b w wl H0 s, kn) (some (.int (D_X4_neededNow s a1))) (wd b w wl H0 s, kn)
  refine rx_k 2 (2, [(0, .ref (b + 23)), (1, .int a1)], [.int a1, .ref (b + 23)]) (fun _ _ => rfl) ?_
  refine rx_inv rfl rfl (rc_X4_has hP) rfl rfl rfl (q_recv (wg_23 hP)) rfl rfl ?_
  by_cases c0 : (D_X4_has s a1) = 0
  · refine rx_ifT rfl (bt c0) ?_
    refine rx_k 1 (27, [(0, .ref (b + 23)), (1, .int a1)], [.int 0]) (fun _ _ => rfl) ?_
    rw [(show (D_X4_neededNow s a1) = 0 from ((if_pos c0).trans rfl))]
    exact rx_ri rfl
  · refine rx_ifF rfl (bf c0) rfl ?_
    refine rx_k 1 (9, [(0, .ref (b + 23)), (1, .int a1)], [.ref (b + 23)]) (fun _ _ => rfl) ?_
    refine rx_getf rfl rfl (wg_23 hP) rfl ?_
    refine rx_k 1 (13, [(0, .ref (b + 23)), (1, .int a1)], [.int a1, .ref (b + 25)]) (fun _ _ => rfl) ?_
    refine rx_ild rfl rfl (wg_25 hP) (ar_at (rg_X4_has c0)) ?_
    refine rx_k 2 (16, [(0, .ref (b + 23)), (1, .int a1)], [.ref (b + 23), .int 1, .int (s 25 a1.toNatClampNeg)]) (fun _ _ => rfl) ?_
    refine rx_getf rfl rfl (wg_23 hP) rfl ?_
    refine rx_k 5 (27, [(0, .ref (b + 23)), (1, .int a1)], [.int ((s 25 a1.toNatClampNeg) &&& ((1 <<< ((s 23 13) &&& 31)) - 1))]) (fun _ _ => rfl) ?_
    rw [(show (D_X4_neededNow s a1) = ((s 25 a1.toNatClampNeg) &&& ((1 <<< ((s 23 13) &&& 31)) - 1)) from ((if_neg c0).trans rfl))]
    exact rx_ri rfl
theorem rc_X4_neededNow (hP : WOK b w H0) {s : Sg} {a1 : Int32} : Rc sc 2 63 [.ref (b + 23), .int a1] (wd b w wl H0 s, kn) (some (.int (D_X4_neededNow s a1))) (wd b w wl H0 s, kn) := rx_mc (m_X4_neededNow hP) rfl rfl (Nat.ble_eq_true_of_le (Nat.le_refl _)) (Nat.ble_eq_true_of_le (Nat.le_refl _))
-- LinkHarbour$LibraryTable.fillRow
def fr_X4_fillRow_18 (b w : Nat) (x3 : Int32) (x2 : Int32) : EF := (18, [(0, .ref (b + 23)), (2, .int x2), (3, .int x3)], [])
def fe_X4_fillRow_18 (b w : Nat) (x3 : Int32) (x2 : Int32) : EF := (110, [(2, .int x2)], [])
def fr_X4_fillRow_44 (b w : Nat) (a3 : Int32) (a4 : Int32) (x5 : Int32) (x2 : Int32) : EF := (44, [(0, .ref (b + 23)), (2, .int x2), (3, .int a3), (4, .int a4), (5, .int x5)], [])
def fe_X4_fillRow_44 (b w : Nat) (a3 : Int32) (a4 : Int32) (x5 : Int32) (x2 : Int32) : EF := (104, [(0, .ref (b + 23)), (2, .int x2), (3, .int a3)], [])
noncomputable def B_X4_fillRow_44 (a3 : Int32) (a4 : Int32) (x5 : Int32) (x2 : Int32) (s : Sg) : Bool × (Int32 × Int32 × Sg) := (if 6 ≤ x5 then (false, (x5, x2, s)) else (if (D_X11_hasBit (a4 &&& ((s 23 12) ^^^ (-1))) x5) = 0 then (true, ((x5 + 1), x2, s)) else (if 6 ≤ x2 then (true, ((x5 + 1), x2, s)) else (true, ((x5 + 1), (x2 + 1), (up (up s 34 x2.toNatClampNeg x5) 23 12 ((s 23 12) ||| (1 <<< (x5 &&& 31)))))))))
theorem b_X4_fillRow_44 (hP : WOK b w H0) {s : Sg} {a3 : Int32} {a4 : Int32} {x5 : Int32} {x2 : Int32} (h3 : rg a3 6) (o : Option Value) (h' : EH) (hN : NN s) (hv : 0 ≤ x5.toInt) (hp : 0 ≤ x2.toInt) (hc : ∀ (t5 : Int32) (t2 : Int32) (ts : Sg), (B_X4_fillRow_44 a3 a4 x5 x2 s) = (true, (t5, t2, ts)) → x5.toInt < 2147483647 → t5 = x5 + 1 → Rx sc g_X4_fillRow 2 (fr_X4_fillRow_44 b w a3 a4 t5 t2) (wd b w wl H0 ts, kn) o h') (he : ∀ (t5 : Int32) (t2 : Int32) (ts : Sg), (B_X4_fillRow_44 a3 a4 x5 x2 s) = (false, (t5, t2, ts)) → Rx sc g_X4_fillRow 2 (fe_X4_fillRow_44 b w a3 a4 t5 t2) (wd b w wl H0 ts, kn) o h') : Rx sc g_X4_fillRow 2 (fr_X4_fillRow_44 b w a3 a4 x5 x2) (wd b w wl H0 s, kn) o h' := by
  show Rx sc g_X4_fillRow 2 (44, [(0, .ref (b + 23)), (2, .int x2), (3, .int a3), (4, .int a4), (5, .int x5)], []) (wd b w wl H0 s, kn) o h'
  refine rx_k 2 (48, [(0, .ref (b + 23)), (2, .int x2), (3, .int a3), (4, .int a4), (5, .int x5)], [.int 6, .int x5]) (fun _ _ => rfl) ?_
  by_cases c0 : 6 ≤ x5
  · refine rx_icT rfl (bt c0) ?_
    exact rx_lo am_X4_fillRow (lo := [(0, .ref (b + 23)), (2, .int x2), (3, .int a3)]) (List.forall_mem_cons.mpr ⟨List.mem_of_getElem? (i := 0) rfl, (List.forall_mem_cons.mpr ⟨List.mem_of_getElem? (i := 1) rfl, (List.forall_mem_cons.mpr ⟨List.mem_of_getElem? (i := 2) rfl, (fun _ h => absurd h List.not_mem_nil)⟩)⟩)⟩) rfl (he _ _ _ (show (B_X4_fillRow_44 a3 a4 x5 x2 s) = (false, (x5, x2, s)) from ((if_pos c0).trans rfl)))
  · refine rx_icF rfl (bf c0) rfl ?_
    refine rx_k 2 (54, [(0, .ref (b + 23)), (2, .int x2), (3, .int a3), (4, .int a4), (5, .int x5)], [.ref (b + 23), .int a4]) (fun _ _ => rfl) ?_
    refine rx_getf rfl rfl (wg_23 hP) rfl ?_
    refine rx_k 4 (62, [(0, .ref (b + 23)), (2, .int x2), (3, .int a3), (4, .int a4), (5, .int x5)], [.int x5, .int (a4 &&& ((s 23 12) ^^^ (-1)))]) (fun _ _ => rfl) ?_
    refine rx_inv rfl rfl (rc_X11_hasBit) rfl rfl rfl rfl rfl rfl ?_
    by_cases c1 : (D_X11_hasBit (a4 &&& ((s 23 12) ^^^ (-1))) x5) = 0
    · refine rx_ifT rfl (bt c1) ?_
      refine rx_k 2 (44, [(5, .int (x5 + 1)), (0, .ref (b + 23)), (2, .int x2), (3, .int a3), (4, .int a4)], []) (fun _ _ => rfl) ?_
      refine rx_lo am_X4_fillRow (lo := [(0, .ref (b + 23)), (2, .int x2), (3, .int a3), (4, .int a4), (5, .int (x5 + 1))]) (List.forall_mem_cons.mpr ⟨List.mem_of_getElem? (i := 1) rfl, (List.forall_mem_cons.mpr ⟨List.mem_of_getElem? (i := 2) rfl, (List.forall_mem_cons.mpr ⟨List.mem_of_getElem? (i := 3) rfl, (List.forall_mem_cons.mpr ⟨List.mem_of_getElem? (i := 4) rfl, (List.forall_mem_cons.mpr ⟨List.mem_of_getElem? (i := 0) rfl, (fun _ h => absurd h List.not_mem_nil)⟩)⟩)⟩)⟩)⟩) rfl (hc _ _ _ (show (B_X4_fillRow_44 a3 a4 x5 x2 s) = (true, ((x5 + 1), x2, s)) from ((if_neg c0).trans ((if_pos c1).trans rfl))) (lt_nle c0) rfl)
    · refine rx_ifF rfl (bf c1) rfl ?_
      refine rx_k 2 (71, [(0, .ref (b + 23)), (2, .int x2), (3, .int a3), (4, .int a4), (5, .int x5)], [.int 6, .int x2]) (fun _ _ => rfl) ?_
      by_cases c2 : 6 ≤ x2
      · refine rx_icT rfl (bt c2) ?_
        refine rx_k 2 (44, [(5, .int (x5 + 1)), (0, .ref (b + 23)), (2, .int x2), (3, .int a3), (4, .int a4)], []) (fun _ _ => rfl) ?_
        refine rx_lo am_X4_fillRow (lo := [(0, .ref (b + 23)), (2, .int x2), (3, .int a3), (4, .int a4), (5, .int (x5 + 1))]) (List.forall_mem_cons.mpr ⟨List.mem_of_getElem? (i := 1) rfl, (List.forall_mem_cons.mpr ⟨List.mem_of_getElem? (i := 2) rfl, (List.forall_mem_cons.mpr ⟨List.mem_of_getElem? (i := 3) rfl, (List.forall_mem_cons.mpr ⟨List.mem_of_getElem? (i := 4) rfl, (List.forall_mem_cons.mpr ⟨List.mem_of_getElem? (i := 0) rfl, (fun _ h => absurd h List.not_mem_nil)⟩)⟩)⟩)⟩)⟩) rfl (hc _ _ _ (show (B_X4_fillRow_44 a3 a4 x5 x2 s) = (true, ((x5 + 1), x2, s)) from ((if_neg c0).trans ((if_neg c1).trans ((if_pos c2).trans rfl)))) (lt_nle c0) rfl)
      · refine rx_icF rfl (bf c2) rfl ?_
        refine rx_k 1 (75, [(0, .ref (b + 23)), (2, .int x2), (3, .int a3), (4, .int a4), (5, .int x5)], [.ref (b + 23)]) (fun _ _ => rfl) ?_
        refine rx_getf rfl rfl (wg_23 hP) rfl ?_
        refine rx_k 2 (81, [(0, .ref (b + 23)), (2, .int x2), (3, .int a3), (4, .int a4), (5, .int x5)], [.int x5, .int x2, .ref (b + 34)]) (fun _ _ => rfl) ?_
        refine rx_ist rfl rfl (wg_34 hP) rfl (ar_at (rg_c hp c2 (m := 6) (n := 6) rfl)) (ws_34 hP (rg_c hp c2 (m := 6) (n := 6) rfl)) ?_
        refine rx_k 3 (87, [(2, .int (x2 + 1)), (0, .ref (b + 23)), (3, .int a3), (4, .int a4), (5, .int x5)], [.ref (b + 23), .ref (b + 23)]) (fun _ _ => rfl) ?_
        refine rx_getf (v := .int (s 23 12)) rfl rfl (wg_23 hP) (congrArg (fun z => some (Value.int z)) (rd_nk (by decide))) ?_
        refine rx_k 4 (95, [(2, .int (x2 + 1)), (0, .ref (b + 23)), (3, .int a3), (4, .int a4), (5, .int x5)], [.int ((s 23 12) ||| (1 <<< (x5 &&& 31))), .ref (b + 23)]) (fun _ _ => rfl) ?_
        refine rx_putf rfl rfl (wg_23 hP) rfl (ws_23_12 hP) ?_
        refine rx_k 2 (44, [(5, .int (x5 + 1)), (2, .int (x2 + 1)), (0, .ref (b + 23)), (3, .int a3), (4, .int a4)], []) (fun _ _ => rfl) ?_
        refine rx_lo am_X4_fillRow (lo := [(0, .ref (b + 23)), (2, .int (x2 + 1)), (3, .int a3), (4, .int a4), (5, .int (x5 + 1))]) (List.forall_mem_cons.mpr ⟨List.mem_of_getElem? (i := 2) rfl, (List.forall_mem_cons.mpr ⟨List.mem_of_getElem? (i := 1) rfl, (List.forall_mem_cons.mpr ⟨List.mem_of_getElem? (i := 3) rfl, (List.forall_mem_cons.mpr ⟨List.mem_of_getElem? (i := 4) rfl, (List.forall_mem_cons.mpr ⟨List.mem_of_getElem? (i := 0) rfl, (fun _ h => absurd h List.not_mem_nil)⟩)⟩)⟩)⟩)⟩) rfl (hc _ _ _ (show (B_X4_fillRow_44 a3 a4 x5 x2 s) = (true, ((x5 + 1), (x2 + 1), (up (up s 34 x2.toNatClampNeg x5) 23 12 ((s 23 12) ||| (1 <<< (x5 &&& 31)))))) from ((if_neg c0).trans ((if_neg c1).trans ((if_neg c2).trans rfl)))) (lt_nle c0) rfl)
theorem nb_X4_fillRow_44 {a3 : Int32} {a4 : Int32} {x5 : Int32} {x2 : Int32} {s : Sg} (hN : NN s) (hp : 0 ≤ x2.toInt) : ∃ (f : Bool) (t5 : Int32) (t2 : Int32) (ts : Sg), (B_X4_fillRow_44 a3 a4 x5 x2 s) = (f, (t5, t2, ts)) ∧ NN ts ∧ 0 ≤ t2.toInt := by
  by_cases c0 : 6 ≤ x5
  · exact ⟨_, _, _, _, (show (B_X4_fillRow_44 a3 a4 x5 x2 s) = (false, (x5, x2, s)) from ((if_pos c0).trans rfl)), hN, hp⟩
  · by_cases c1 : (D_X11_hasBit (a4 &&& ((s 23 12) ^^^ (-1))) x5) = 0
    · exact ⟨_, _, _, _, (show (B_X4_fillRow_44 a3 a4 x5 x2 s) = (true, ((x5 + 1), x2, s)) from ((if_neg c0).trans ((if_pos c1).trans rfl))), hN, hp⟩
    · by_cases c2 : 6 ≤ x2
      · exact ⟨_, _, _, _, (show (B_X4_fillRow_44 a3 a4 x5 x2 s) = (true, ((x5 + 1), x2, s)) from ((if_neg c0).trans ((if_neg c1).trans ((if_pos c2).trans rfl)))), hN, (i_ge0 (Int32.not_lt.mpr c2) (m := 6) (n := 6) rfl (by decide))⟩
      · exact ⟨_, _, _, _, (show (B_X4_fillRow_44 a3 a4 x5 x2 s) = (true, ((x5 + 1), (x2 + 1), (up (up s 34 x2.toNatClampNeg x5) 23 12 ((s 23 12) ||| (1 <<< (x5 &&& 31)))))) from ((if_neg c0).trans ((if_neg c1).trans ((if_neg c2).trans rfl)))), (nn_f rfl (nn_0 rfl hN)), (nn_inc (rg_c hp c2 (m := 6) (n := 6) rfl).1 (lt_nle c2) (by decide))⟩
noncomputable def R_X4_fillRow_104 (s : Sg) (a2 : Int32) (a3 : Int32) : Bool × (Int32 × Int32 × Sg) := (true, ((a3 + 1), a2, s))
theorem r_X4_fillRow_104 (hP : WOK b w H0) {s : Sg} {a2 : Int32} {a3 : Int32} (h3 : rg a3 6) (o : Option Value) (h' : EH) (hN : NN s) (hp : 0 ≤ a2.toInt) (hv : 0 ≤ (a3).toInt) (hlt : (a3).toInt < 2147483647) (hc : ∀ (t3 : Int32) (t2 : Int32) (ts : Sg), (R_X4_fillRow_104 s a2 a3) = (true, (t3, t2, ts)) → a3.toInt < 2147483647 → t3 = a3 + 1 → Rx sc g_X4_fillRow 2 (fr_X4_fillRow_18 b w t3 t2) (wd b w wl H0 ts, kn) o h') (he : ∀ (t3 : Int32) (t2 : Int32) (ts : Sg), (R_X4_fillRow_104 s a2 a3) = (false, (t3, t2, ts)) → Rx sc g_X4_fillRow 2 (fe_X4_fillRow_18 b w t3 t2) (wd b w wl H0 ts, kn) o h') : Rx sc g_X4_fillRow 2 ((104, [(0, .ref (b + 23)), (2, .int a2), (3, .int a3)], [])) (wd b w wl H0 s, kn) o h' := by
  show Rx sc g_X4_fillRow 2 (104, [(0, .ref (b + 23)), (2, .int a2), (3, .int a3)], []) (wd b w wl H0 s, kn) o h'
  refine rx_k 2 (18, [(3, .int (a3 + 1)), (0, .ref (b + 23)), (2, .int a2)], []) (fun _ _ => rfl) ?_
  refine rx_lo am_X4_fillRow (lo := [(0, .ref (b + 23)), (2, .int a2), (3, .int (a3 + 1))]) (List.forall_mem_cons.mpr ⟨List.mem_of_getElem? (i := 1) rfl, (List.forall_mem_cons.mpr ⟨List.mem_of_getElem? (i := 2) rfl, (List.forall_mem_cons.mpr ⟨List.mem_of_getElem? (i := 0) rfl, (fun _ h => absurd h List.not_mem_nil)⟩)⟩)⟩) rfl (hc _ _ _ (show (R_X4_fillRow_104 s a2 a3) = (true, ((a3 + 1), a2, s)) from rfl) hlt rfl)
theorem nr_X4_fillRow_104 {s : Sg} {a2 : Int32} {a3 : Int32} (hN : NN s) (hp : 0 ≤ a2.toInt) : ∃ (f : Bool) (t3 : Int32) (t2 : Int32) (ts : Sg), (R_X4_fillRow_104 s a2 a3) = (f, (t3, t2, ts)) ∧ NN ts ∧ 0 ≤ t2.toInt := by
  exact ⟨_, _, _, _, (show (R_X4_fillRow_104 s a2 a3) = (true, ((a3 + 1), a2, s)) from rfl), hN, hp⟩
noncomputable def B_X4_fillRow_18 (x3 : Int32) (x2 : Int32) (s : Sg) : Bool × (Int32 × Int32 × Sg) := (if x2 ≤ x3 then (false, (x3, x2, s)) else (if 6 ≤ x3 then (false, (x3, x2, s)) else (R_X4_fillRow_104 ((itr (uc3 (B_X4_fillRow_44 x3 (D_X4_neededNow s (s 34 x3.toNatClampNeg)))) BIG (0, x2, s)).2.2) ((itr (uc3 (B_X4_fillRow_44 x3 (D_X4_neededNow s (s 34 x3.toNatClampNeg)))) BIG (0, x2, s)).2.1) x3)))
theorem b_X4_fillRow_18 (hP : WOK b w H0) {s : Sg} {x3 : Int32} {x2 : Int32} (o : Option Value) (h' : EH) (hN : NN s) (hv : 0 ≤ x3.toInt) (hp : 0 ≤ x2.toInt) (hc : ∀ (t3 : Int32) (t2 : Int32) (ts : Sg), (B_X4_fillRow_18 x3 x2 s) = (true, (t3, t2, ts)) → x3.toInt < 2147483647 → t3 = x3 + 1 → Rx sc g_X4_fillRow 2 (fr_X4_fillRow_18 b w t3 t2) (wd b w wl H0 ts, kn) o h') (he : ∀ (t3 : Int32) (t2 : Int32) (ts : Sg), (B_X4_fillRow_18 x3 x2 s) = (false, (t3, t2, ts)) → Rx sc g_X4_fillRow 2 (fe_X4_fillRow_18 b w t3 t2) (wd b w wl H0 ts, kn) o h') : Rx sc g_X4_fillRow 2 (fr_X4_fillRow_18 b w x3 x2) (wd b w wl H0 s, kn) o h' := by
  show Rx sc g_X4_fillRow 2 (18, [(0, .ref (b + 23)), (2, .int x2), (3, .int x3)], []) (wd b w wl H0 s, kn) o h'
  refine rx_k 2 (20, [(0, .ref (b + 23)), (2, .int x2), (3, .int x3)], [.int x2, .int x3]) (fun _ _ => rfl) ?_
  by_cases c0 : x2 ≤ x3
  · refine rx_icT rfl (bt c0) ?_
    exact rx_lo am_X4_fillRow (lo := [(2, .int x2)]) (List.forall_mem_cons.mpr ⟨List.mem_of_getElem? (i := 1) rfl, (fun _ h => absurd h List.not_mem_nil)⟩) rfl (he _ _ _ (show (B_X4_fillRow_18 x3 x2 s) = (false, (x3, x2, s)) from ((if_pos c0).trans rfl)))
  · refine rx_icF rfl (bf c0) rfl ?_
    refine rx_k 2 (26, [(0, .ref (b + 23)), (2, .int x2), (3, .int x3)], [.int 6, .int x3]) (fun _ _ => rfl) ?_
    by_cases c1 : 6 ≤ x3
    · refine rx_icT rfl (bt c1) ?_
      exact rx_lo am_X4_fillRow (lo := [(2, .int x2)]) (List.forall_mem_cons.mpr ⟨List.mem_of_getElem? (i := 1) rfl, (fun _ h => absurd h List.not_mem_nil)⟩) rfl (he _ _ _ (show (B_X4_fillRow_18 x3 x2 s) = (false, (x3, x2, s)) from ((if_neg c0).trans ((if_pos c1).trans rfl))))
    · refine rx_icF rfl (bf c1) rfl ?_
      refine rx_k 2 (31, [(0, .ref (b + 23)), (2, .int x2), (3, .int x3)], [.ref (b + 23), .ref (b + 23)]) (fun _ _ => rfl) ?_
      refine rx_getf rfl rfl (wg_23 hP) rfl ?_
      refine rx_k 1 (35, [(0, .ref (b + 23)), (2, .int x2), (3, .int x3)], [.int x3, .ref (b + 34), .ref (b + 23)]) (fun _ _ => rfl) ?_
      refine rx_ild rfl rfl (wg_34 hP) (ar_at (rg_c hv c1 (m := 6) (n := 6) rfl)) ?_
      refine rx_inv rfl rfl (rc_X4_neededNow hP) rfl rfl rfl (q_recv (wg_23 hP)) rfl rfl ?_
      refine rx_k 3 (44, [(5, .int 0), (4, .int (D_X4_neededNow s (s 34 x3.toNatClampNeg))), (0, .ref (b + 23)), (2, .int x2), (3, .int x3)], []) (fun _ _ => rfl) ?_
      refine rx_lo am_X4_fillRow (lo := [(0, .ref (b + 23)), (2, .int x2), (3, .int x3), (4, .int (D_X4_neededNow s (s 34 x3.toNatClampNeg))), (5, .int 0)]) (List.forall_mem_cons.mpr ⟨List.mem_of_getElem? (i := 2) rfl, (List.forall_mem_cons.mpr ⟨List.mem_of_getElem? (i := 3) rfl, (List.forall_mem_cons.mpr ⟨List.mem_of_getElem? (i := 4) rfl, (List.forall_mem_cons.mpr ⟨List.mem_of_getElem? (i := 1) rfl, (List.forall_mem_cons.mpr ⟨List.mem_of_getElem? (i := 0) rfl, (fun _ h => absurd h List.not_mem_nil)⟩)⟩)⟩)⟩)⟩) rfl ?_
      refine rx_loop3s (B := B_X4_fillRow_44 x3 (D_X4_neededNow s (s 34 x3.toNatClampNeg))) (fr := (fr_X4_fillRow_44 b w x3 (D_X4_neededNow s (s 34 x3.toNatClampNeg)))) (E := (fe_X4_fillRow_44 b w x3 (D_X4_neededNow s (s 34 x3.toNatClampNeg)))) (I := fun z5 z2 zs => NN zs ∧ 0 ≤ z2.toInt) (fun z5 z2 zs oo hh9 hI9 hv9 hc9 he9 => b_X4_fillRow_44 hP (rg_c hv c1 (m := 6) (n := 6) rfl) oo hh9 hI9.1 hv9 hI9.2 hc9 he9) (fun z5 z2 zs hz => nb_X4_fillRow_44 hz.1 hz.2) BIG 0 x2 s _ _ ⟨hN, hp⟩ (by decide : (0 : Int) ≤ (0 : Int32).toInt) (le_enough (by decide : (0 : Int) ≤ (0 : Int32).toInt)) ?_
      have e9 := (show (B_X4_fillRow_18 x3 x2 s) = (R_X4_fillRow_104 ((itr (uc3 (B_X4_fillRow_44 x3 (D_X4_neededNow s (s 34 x3.toNatClampNeg)))) BIG (0, x2, s)).2.2) ((itr (uc3 (B_X4_fillRow_44 x3 (D_X4_neededNow s (s 34 x3.toNatClampNeg)))) BIG (0, x2, s)).2.1) x3) from ((if_neg c0).trans ((if_neg c1).trans rfl)))
      exact r_X4_fillRow_104 hP (rg_c hv c1 (m := 6) (n := 6) rfl) o h' (itr_inv3 (B := B_X4_fillRow_44 x3 (D_X4_neededNow s (s 34 x3.toNatClampNeg))) (I := fun z5 z2 zs => NN zs ∧ 0 ≤ z2.toInt) (fun z5 z2 zs hz => nb_X4_fillRow_44 hz.1 hz.2) BIG 0 x2 s ⟨hN, hp⟩).1 (itr_inv3 (B := B_X4_fillRow_44 x3 (D_X4_neededNow s (s 34 x3.toNatClampNeg))) (I := fun z5 z2 zs => NN zs ∧ 0 ≤ z2.toInt) (fun z5 z2 zs hz => nb_X4_fillRow_44 hz.1 hz.2) BIG 0 x2 s ⟨hN, hp⟩).2 (rg_c hv c1 (m := 6) (n := 6) rfl).1 (lt_nle c0) (fun t3 t2 ts e8 l8 v8 => hc t3 t2 ts (e9.trans e8) l8 v8) (fun t3 t2 ts e8 => he t3 t2 ts (e9.trans e8))
theorem nb_X4_fillRow_18 {x3 : Int32} {x2 : Int32} {s : Sg} (hN : NN s) (hp : 0 ≤ x2.toInt) : ∃ (f : Bool) (t3 : Int32) (t2 : Int32) (ts : Sg), (B_X4_fillRow_18 x3 x2 s) = (f, (t3, t2, ts)) ∧ NN ts ∧ 0 ≤ t2.toInt := by
  by_cases c0 : x2 ≤ x3
  · exact ⟨_, _, _, _, (show (B_X4_fillRow_18 x3 x2 s) = (false, (x3, x2, s)) from ((if_pos c0).trans rfl)), hN, hp⟩
  · by_cases c1 : 6 ≤ x3
    · exact ⟨_, _, _, _, (show (B_X4_fillRow_18 x3 x2 s) = (false, (x3, x2, s)) from ((if_neg c0).trans ((if_pos c1).trans rfl))), hN, hp⟩
    · rw [show (B_X4_fillRow_18 x3 x2 s) = (R_X4_fillRow_104 ((itr (uc3 (B_X4_fillRow_44 x3 (D_X4_neededNow s (s 34 x3.toNatClampNeg)))) BIG (0, x2, s)).2.2) ((itr (uc3 (B_X4_fillRow_44 x3 (D_X4_neededNow s (s 34 x3.toNatClampNeg)))) BIG (0, x2, s)).2.1) x3) from ((if_neg c0).trans ((if_neg c1).trans rfl))]
      exact (nr_X4_fillRow_104 (itr_inv3 (B := B_X4_fillRow_44 x3 (D_X4_neededNow s (s 34 x3.toNatClampNeg))) (I := fun z5 z2 zs => NN zs ∧ 0 ≤ z2.toInt) (fun z5 z2 zs hz => nb_X4_fillRow_44 hz.1 hz.2) BIG 0 x2 s ⟨hN, hp⟩).1 (itr_inv3 (B := B_X4_fillRow_44 x3 (D_X4_neededNow s (s 34 x3.toNatClampNeg))) (I := fun z5 z2 zs => NN zs ∧ 0 ≤ z2.toInt) (fun z5 z2 zs hz => nb_X4_fillRow_44 hz.1 hz.2) BIG 0 x2 s ⟨hN, hp⟩).2)
noncomputable def R_X4_fillRow_110 (s : Sg) (a2 : Int32) : Int32 × Sg := (a2, s)
theorem r_X4_fillRow_110 (hP : WOK b w H0) {s : Sg} {a2 : Int32} (hN : NN s) (hp : 0 ≤ a2.toInt) : Rx sc g_X4_fillRow 2 ((110, [(2, .int a2)], [])) (wd b w wl H0 s, kn) (some (.int (R_X4_fillRow_110 s a2).1)) (wd b w wl H0 (R_X4_fillRow_110 s a2).2, kn) := by
  show Rx sc g_X4_fillRow 2 (110, [(2, .int a2)], []) (wd b w wl H0 s, kn) (some (.int (R_X4_fillRow_110 s a2).1)) (wd b w wl H0 (R_X4_fillRow_110 s a2).2, kn)
  refine rx_k 1 (111, [(2, .int a2)], [.int a2]) (fun _ _ => rfl) ?_
  rw [(show (R_X4_fillRow_110 s a2) = (a2, s) from rfl)]
  exact rx_ri rfl
theorem nr_X4_fillRow_110 {s : Sg} {a2 : Int32} (hN : NN s) (hp : 0 ≤ a2.toInt) : NN ((R_X4_fillRow_110 s a2).2) := by
  exact pair_of (P := fun zs => NN zs) (show (R_X4_fillRow_110 s a2) = (a2, s) from rfl) hN
noncomputable def D_X4_fillRow (s : Sg) (a1 : Int32) : Int32 × Sg := (R_X4_fillRow_110 ((itr (uc3 (B_X4_fillRow_18)) BIG (0, 1, (up (up s 34 0 a1) 23 12 (1 <<< (a1 &&& 31))))).2.2) ((itr (uc3 (B_X4_fillRow_18)) BIG (0, 1, (up (up s 34 0 a1) 23 12 (1 <<< (a1 &&& 31))))).2.1))
theorem m_X4_fillRow (hP : WOK b w H0) {s : Sg} {a1 : Int32} (hN : NN s) : Rx sc g_X4_fillRow 2 ((0, [(0, .ref (b + 23)), (1, .int a1)], [])) (wd b w wl H0 s, kn) (some (.int (D_X4_fillRow s a1).1)) (wd b w wl H0 (D_X4_fillRow s a1).2, kn) := by
  show Rx sc g_X4_fillRow 2 (0, [(0, .ref (b + 23)), (1, .int a1)], []) (wd b w wl H0 s, kn) (some (.int (D_X4_fillRow s a1).1)) (wd b w wl H0 (D_X4_fillRow s a1).2, kn)
  refine rx_k 1 (1, [(0, .ref (b + 23)), (1, .int a1)], [.ref (b + 23)]) (fun _ _ => rfl) ?_
  refine rx_getf rfl rfl (wg_23 hP) rfl ?_
  refine rx_k 2 (6, [(0, .ref (b + 23)), (1, .int a1)], [.int a1, .int 0, .ref (b + 34)]) (fun _ _ => rfl) ?_
  refine rx_ist rfl rfl (wg_34 hP) rfl (ar_at ⟨by decide, by decide⟩) (ws_34 hP ⟨by decide, by decide⟩) ?_
  refine rx_k 4 (11, [(0, .ref (b + 23)), (1, .int a1)], [.int (1 <<< (a1 &&& 31)), .ref (b + 23)]) (fun _ _ => rfl) ?_
  refine rx_putf rfl rfl (wg_23 hP) rfl (ws_23_12 hP) ?_
  refine rx_k 4 (18, [(3, .int 0), (2, .int 1), (0, .ref (b + 23)), (1, .int a1)], []) (fun _ _ => rfl) ?_
  refine rx_lo am_X4_fillRow (lo := [(0, .ref (b + 23)), (2, .int 1), (3, .int 0)]) (List.forall_mem_cons.mpr ⟨List.mem_of_getElem? (i := 2) rfl, (List.forall_mem_cons.mpr ⟨List.mem_of_getElem? (i := 1) rfl, (List.forall_mem_cons.mpr ⟨List.mem_of_getElem? (i := 0) rfl, (fun _ h => absurd h List.not_mem_nil)⟩)⟩)⟩) rfl ?_
  refine rx_loop3s (B := B_X4_fillRow_18) (fr := (fr_X4_fillRow_18 b w)) (E := (fe_X4_fillRow_18 b w)) (I := fun z3 z2 zs => NN zs ∧ 0 ≤ z2.toInt) (fun z3 z2 zs oo hh9 hI9 hv9 hc9 he9 => b_X4_fillRow_18 hP oo hh9 hI9.1 hv9 hI9.2 hc9 he9) (fun z3 z2 zs hz => nb_X4_fillRow_18 hz.1 hz.2) BIG 0 1 (up (up s 34 0 a1) 23 12 (1 <<< (a1 &&& 31))) _ _ ⟨(nn_f rfl (nn_0 rfl hN)), (by decide : (0 : Int) ≤ (1 : Int32).toInt)⟩ (by decide : (0 : Int) ≤ (0 : Int32).toInt) (le_enough (by decide : (0 : Int) ≤ (0 : Int32).toInt)) ?_
  rw [(show (D_X4_fillRow s a1) = (R_X4_fillRow_110 ((itr (uc3 (B_X4_fillRow_18)) BIG (0, 1, (up (up s 34 0 a1) 23 12 (1 <<< (a1 &&& 31))))).2.2) ((itr (uc3 (B_X4_fillRow_18)) BIG (0, 1, (up (up s 34 0 a1) 23 12 (1 <<< (a1 &&& 31))))).2.1)) from rfl)]
  exact r_X4_fillRow_110 hP (itr_inv3 (B := B_X4_fillRow_18) (I := fun z3 z2 zs => NN zs ∧ 0 ≤ z2.toInt) (fun z3 z2 zs hz => nb_X4_fillRow_18 hz.1 hz.2) BIG 0 1 (up (up s 34 0 a1) 23 12 (1 <<< (a1 &&& 31))) ⟨(nn_f rfl (nn_0 rfl hN)), (by decide : (0 : Int) ≤ (1 : Int32).toInt)⟩).1 (itr_inv3 (B := B_X4_fillRow_18) (I := fun z3 z2 zs => NN zs ∧ 0 ≤ z2.toInt) (fun z3 z2 zs hz => nb_X4_fillRow_18 hz.1 hz.2) BIG 0 1 (up (up s 34 0 a1) 23 12 (1 <<< (a1 &&& 31))) ⟨(nn_f rfl (nn_0 rfl hN)), (by decide : (0 : Int) ≤ (1 : Int32).toInt)⟩).2
theorem rc_X4_fillRow (hP : WOK b w H0) {s : Sg} {a1 : Int32} (hN : NN s) : Rc sc 3 65 [.ref (b + 23), .int a1] (wd b w wl H0 s, kn) (some (.int (D_X4_fillRow s a1).1)) (wd b w wl H0 (D_X4_fillRow s a1).2, kn) := rx_mc (m_X4_fillRow hP hN) rfl rfl (Nat.ble_eq_true_of_le (Nat.le_refl _)) (Nat.ble_eq_true_of_le (Nat.le_refl _))
theorem nn_X4_fillRow {s : Sg} {a1 : Int32} (hN : NN s) : NN (D_X4_fillRow s a1).2 := by
  rw [show (D_X4_fillRow s a1) = (R_X4_fillRow_110 ((itr (uc3 (B_X4_fillRow_18)) BIG (0, 1, (up (up s 34 0 a1) 23 12 (1 <<< (a1 &&& 31))))).2.2) ((itr (uc3 (B_X4_fillRow_18)) BIG (0, 1, (up (up s 34 0 a1) 23 12 (1 <<< (a1 &&& 31))))).2.1)) from rfl]
  exact (nr_X4_fillRow_110 (itr_inv3 (B := B_X4_fillRow_18) (I := fun z3 z2 zs => NN zs ∧ 0 ≤ z2.toInt) (fun z3 z2 zs hz => nb_X4_fillRow_18 hz.1 hz.2) BIG 0 1 (up (up s 34 0 a1) 23 12 (1 <<< (a1 &&& 31))) ⟨(nn_f rfl (nn_0 rfl hN)), (by decide : (0 : Int) ≤ (1 : Int32).toInt)⟩).1 (itr_inv3 (B := B_X4_fillRow_18) (I := fun z3 z2 zs => NN zs ∧ 0 ≤ z2.toInt) (fun z3 z2 zs hz => nb_X4_fillRow_18 hz.1 hz.2) BIG 0 1 (up (up s 34 0 a1) 23 12 (1 <<< (a1 &&& 31))) ⟨(nn_f rfl (nn_0 rfl hN)), (by decide : (0 : Int) ≤ (1 : Int32).toInt)⟩).2)
theorem fwb_X4_fillRow_44 {a3 : Int32} {a4 : Int32} {x5 : Int32} {x2 : Int32} {s : Sg} {k j : Nat} (h23f12 : k ≠ 23 ∨ j ≠ 12) (h34 : k ≠ 34) : ∃ (f : Bool) (t5 : Int32) (t2 : Int32) (ts : Sg), (B_X4_fillRow_44 a3 a4 x5 x2 s) = (f, (t5, t2, ts)) ∧ ts k j = s k j := by
  by_cases c0 : 6 ≤ x5
  · exact ⟨_, _, _, _, (show (B_X4_fillRow_44 a3 a4 x5 x2 s) = (false, (x5, x2, s)) from ((if_pos c0).trans rfl)), rfl⟩
  · by_cases c1 : (D_X11_hasBit (a4 &&& ((s 23 12) ^^^ (-1))) x5) = 0
    · exact ⟨_, _, _, _, (show (B_X4_fillRow_44 a3 a4 x5 x2 s) = (true, ((x5 + 1), x2, s)) from ((if_neg c0).trans ((if_pos c1).trans rfl))), rfl⟩
    · by_cases c2 : 6 ≤ x2
      · exact ⟨_, _, _, _, (show (B_X4_fillRow_44 a3 a4 x5 x2 s) = (true, ((x5 + 1), x2, s)) from ((if_neg c0).trans ((if_neg c1).trans ((if_pos c2).trans rfl)))), rfl⟩
      · exact ⟨_, _, _, _, (show (B_X4_fillRow_44 a3 a4 x5 x2 s) = (true, ((x5 + 1), (x2 + 1), (up (up s 34 x2.toNatClampNeg x5) 23 12 ((s 23 12) ||| (1 <<< (x5 &&& 31)))))) from ((if_neg c0).trans ((if_neg c1).trans ((if_neg c2).trans rfl)))), ((up_f h23f12).trans ((up_a h34).trans rfl))⟩
theorem fwr_X4_fillRow_104 {s : Sg} {a2 : Int32} {a3 : Int32} {k j : Nat} (h23f12 : k ≠ 23 ∨ j ≠ 12) (h34 : k ≠ 34) : ∃ (f : Bool) (t3 : Int32) (t2 : Int32) (ts : Sg), (R_X4_fillRow_104 s a2 a3) = (f, (t3, t2, ts)) ∧ ts k j = s k j := by
  exact ⟨_, _, _, _, (show (R_X4_fillRow_104 s a2 a3) = (true, ((a3 + 1), a2, s)) from rfl), rfl⟩
theorem fwb_X4_fillRow_18 {x3 : Int32} {x2 : Int32} {s : Sg} {k j : Nat} (h23f12 : k ≠ 23 ∨ j ≠ 12) (h34 : k ≠ 34) : ∃ (f : Bool) (t3 : Int32) (t2 : Int32) (ts : Sg), (B_X4_fillRow_18 x3 x2 s) = (f, (t3, t2, ts)) ∧ ts k j = s k j := by
  by_cases c0 : x2 ≤ x3
  · exact ⟨_, _, _, _, (show (B_X4_fillRow_18 x3 x2 s) = (false, (x3, x2, s)) from ((if_pos c0).trans rfl)), rfl⟩
  · by_cases c1 : 6 ≤ x3
    · exact ⟨_, _, _, _, (show (B_X4_fillRow_18 x3 x2 s) = (false, (x3, x2, s)) from ((if_neg c0).trans ((if_pos c1).trans rfl))), rfl⟩
    · rw [show (B_X4_fillRow_18 x3 x2 s) = (R_X4_fillRow_104 ((itr (uc3 (B_X4_fillRow_44 x3 (D_X4_neededNow s (s 34 x3.toNatClampNeg)))) BIG (0, x2, s)).2.2) ((itr (uc3 (B_X4_fillRow_44 x3 (D_X4_neededNow s (s 34 x3.toNatClampNeg)))) BIG (0, x2, s)).2.1) x3) from ((if_neg c0).trans ((if_neg c1).trans rfl))]
      exact (exq3t (fwr_X4_fillRow_104 h23f12 h34) ((itr_inv3 (B := B_X4_fillRow_44 x3 (D_X4_neededNow s (s 34 x3.toNatClampNeg))) (I := fun z5 z2 zs => zs k j = s k j) (fun z5 z2 zs hz => exq3 (fwb_X4_fillRow_44 h23f12 h34) hz) BIG 0 x2 s rfl).trans rfl))
theorem fwr_X4_fillRow_110 {s : Sg} {a2 : Int32} {k j : Nat} (h23f12 : k ≠ 23 ∨ j ≠ 12) (h34 : k ≠ 34) : (R_X4_fillRow_110 s a2).2 k j = s k j := by
  exact pair_of (P := fun zs => zs k j = s k j) (show (R_X4_fillRow_110 s a2) = (a2, s) from rfl) rfl
theorem fw_X4_fillRow {s : Sg} {a1 : Int32} {k j : Nat} (h23f12 : k ≠ 23 ∨ j ≠ 12) (h34 : k ≠ 34) : (D_X4_fillRow s a1).2 k j = s k j := by
  rw [show (D_X4_fillRow s a1) = (R_X4_fillRow_110 ((itr (uc3 (B_X4_fillRow_18)) BIG (0, 1, (up (up s 34 0 a1) 23 12 (1 <<< (a1 &&& 31))))).2.2) ((itr (uc3 (B_X4_fillRow_18)) BIG (0, 1, (up (up s 34 0 a1) 23 12 (1 <<< (a1 &&& 31))))).2.1)) from rfl]
  first | done | exact ((fwr_X4_fillRow_110 h23f12 h34).trans ((itr_inv3 (B := B_X4_fillRow_18) (I := fun z3 z2 zs => zs k j = (up (up s 34 0 a1) 23 12 (1 <<< (a1 &&& 31))) k j) (fun z3 z2 zs hz => exq3 (fwb_X4_fillRow_18 h23f12 h34) hz) BIG 0 1 (up (up s 34 0 a1) 23 12 (1 <<< (a1 &&& 31))) rfl).trans ((up_f h23f12).trans ((up_a h34).trans rfl))))
-- LinkHarbour$LibraryTable.load
def fr_X4_load_5 (b w : Nat) (a1 : Int32) (x3 : Int32) (x2 : Int32) : EF := (5, [(0, .ref (b + 23)), (1, .int a1), (2, .int x2), (3, .int x3)], [])
def fe_X4_load_5 (b w : Nat) (a1 : Int32) (x3 : Int32) (x2 : Int32) : EF := (43, [(0, .ref (b + 23)), (1, .int a1), (2, .int x2)], [])
noncomputable def B_X4_load_5 (s : Sg) (a1 : Int32) (x3 : Int32) (x2 : Int32) : Bool × (Int32 × Int32) := (if 6 ≤ x3 then (false, (x3, x2)) else (if (D_X4_isLoaded s x3) = 0 then (true, ((x3 + 1), x2)) else (true, ((x3 + 1), (D_J9_max_7cf53 x2 ((s 30 x3.toNatClampNeg) + (s 24 x3.toNatClampNeg)))))))
theorem b_X4_load_5 (hP : WOK b w H0) {s : Sg} {a1 : Int32} {x3 : Int32} {x2 : Int32} (o : Option Value) (h' : EH) (hN : NN s) (hv : 0 ≤ x3.toInt) (hc : ∀ (t3 : Int32) (t2 : Int32), (B_X4_load_5 s a1 x3 x2) = (true, (t3, t2)) → x3.toInt < 2147483647 → t3 = x3 + 1 → Rx sc g_X4_load 3 (fr_X4_load_5 b w a1 t3 t2) (wd b w wl H0 s, kn) o h') (he : ∀ (t3 : Int32) (t2 : Int32), (B_X4_load_5 s a1 x3 x2) = (false, (t3, t2)) → Rx sc g_X4_load 3 (fe_X4_load_5 b w a1 t3 t2) (wd b w wl H0 s, kn) o h') : Rx sc g_X4_load 3 (fr_X4_load_5 b w a1 x3 x2) (wd b w wl H0 s, kn) o h' := by
  show Rx sc g_X4_load 3 (5, [(0, .ref (b + 23)), (1, .int a1), (2, .int x2), (3, .int x3)], []) (wd b w wl H0 s, kn) o h'
  refine rx_k 2 (8, [(0, .ref (b + 23)), (1, .int a1), (2, .int x2), (3, .int x3)], [.int 6, .int x3]) (fun _ _ => rfl) ?_
  by_cases c0 : 6 ≤ x3
  · refine rx_icT rfl (bt c0) ?_
    exact rx_lo am_X4_load (lo := [(0, .ref (b + 23)), (1, .int a1), (2, .int x2)]) (List.forall_mem_cons.mpr ⟨List.mem_of_getElem? (i := 0) rfl, (List.forall_mem_cons.mpr ⟨List.mem_of_getElem? (i := 1) rfl, (List.forall_mem_cons.mpr ⟨List.mem_of_getElem? (i := 2) rfl, (fun _ h => absurd h List.not_mem_nil)⟩)⟩)⟩) rfl (he _ _ (show (B_X4_load_5 s a1 x3 x2) = (false, (x3, x2)) from ((if_pos c0).trans rfl)))
  · refine rx_icF rfl (bf c0) rfl ?_
    refine rx_k 2 (13, [(0, .ref (b + 23)), (1, .int a1), (2, .int x2), (3, .int x3)], [.int x3, .ref (b + 23)]) (fun _ _ => rfl) ?_
    refine rx_inv rfl rfl (rc_X4_isLoaded hP) rfl rfl rfl (q_recv (wg_23 hP)) rfl rfl ?_
    by_cases c1 : (D_X4_isLoaded s x3) = 0
    · refine rx_ifT rfl (bt c1) ?_
      refine rx_k 2 (5, [(3, .int (x3 + 1)), (0, .ref (b + 23)), (1, .int a1), (2, .int x2)], []) (fun _ _ => rfl) ?_
      refine rx_lo am_X4_load (lo := [(0, .ref (b + 23)), (1, .int a1), (2, .int x2), (3, .int (x3 + 1))]) (List.forall_mem_cons.mpr ⟨List.mem_of_getElem? (i := 1) rfl, (List.forall_mem_cons.mpr ⟨List.mem_of_getElem? (i := 2) rfl, (List.forall_mem_cons.mpr ⟨List.mem_of_getElem? (i := 3) rfl, (List.forall_mem_cons.mpr ⟨List.mem_of_getElem? (i := 0) rfl, (fun _ h => absurd h List.not_mem_nil)⟩)⟩)⟩)⟩) rfl (hc _ _ (show (B_X4_load_5 s a1 x3 x2) = (true, ((x3 + 1), x2)) from ((if_neg c0).trans ((if_pos c1).trans rfl))) (lt_nle c0) rfl)
    · refine rx_ifF rfl (bf c1) rfl ?_
      refine rx_k 2 (21, [(0, .ref (b + 23)), (1, .int a1), (2, .int x2), (3, .int x3)], [.ref (b + 23), .int x2]) (fun _ _ => rfl) ?_
      refine rx_getf rfl rfl (wg_23 hP) rfl ?_
      refine rx_k 1 (25, [(0, .ref (b + 23)), (1, .int a1), (2, .int x2), (3, .int x3)], [.int x3, .ref (b + 30), .int x2]) (fun _ _ => rfl) ?_
      refine rx_ild rfl rfl (wg_30 hP) (ar_at (rg_c hv c0 (m := 6) (n := 6) rfl)) ?_
      refine rx_k 1 (27, [(0, .ref (b + 23)), (1, .int a1), (2, .int x2), (3, .int x3)], [.ref (b + 23), .int (s 30 x3.toNatClampNeg), .int x2]) (fun _ _ => rfl) ?_
      refine rx_getf rfl rfl (wg_23 hP) rfl ?_
      refine rx_k 1 (31, [(0, .ref (b + 23)), (1, .int a1), (2, .int x2), (3, .int x3)], [.int x3, .ref (b + 24), .int (s 30 x3.toNatClampNeg), .int x2]) (fun _ _ => rfl) ?_
      refine rx_ild rfl rfl (wg_24 hP) (ar_at (rg_c hv c0 (m := 6) (n := 6) rfl)) ?_
      refine rx_k 1 (33, [(0, .ref (b + 23)), (1, .int a1), (2, .int x2), (3, .int x3)], [.int ((s 30 x3.toNatClampNeg) + (s 24 x3.toNatClampNeg)), .int x2]) (fun _ _ => rfl) ?_
      refine rx_inv rfl rfl (rc_J9_max_7cf53) rfl rfl rfl rfl rfl rfl ?_
      refine rx_k 3 (5, [(3, .int (x3 + 1)), (2, .int (D_J9_max_7cf53 x2 ((s 30 x3.toNatClampNeg) + (s 24 x3.toNatClampNeg)))), (0, .ref (b + 23)), (1, .int a1)], []) (fun _ _ => rfl) ?_
      refine rx_lo am_X4_load (lo := [(0, .ref (b + 23)), (1, .int a1), (2, .int (D_J9_max_7cf53 x2 ((s 30 x3.toNatClampNeg) + (s 24 x3.toNatClampNeg)))), (3, .int (x3 + 1))]) (List.forall_mem_cons.mpr ⟨List.mem_of_getElem? (i := 2) rfl, (List.forall_mem_cons.mpr ⟨List.mem_of_getElem? (i := 3) rfl, (List.forall_mem_cons.mpr ⟨List.mem_of_getElem? (i := 1) rfl, (List.forall_mem_cons.mpr ⟨List.mem_of_getElem? (i := 0) rfl, (fun _ h => absurd h List.not_mem_nil)⟩)⟩)⟩)⟩) rfl (hc _ _ (show (B_X4_load_5 s a1 x3 x2) = (true, ((x3 + 1), (D_J9_max_7cf53 x2 ((s 30 x3.toNatClampNeg) + (s 24 x3.toNatClampNeg))))) from ((if_neg c0).trans ((if_neg c1).trans rfl))) (lt_nle c0) rfl)
noncomputable def R_X4_load_43 (s : Sg) (a1 : Int32) (a2 : Int32) : Sg := (if (D_X4_has s a1) = 0 then s else (up s 30 a1.toNatClampNeg (D_X11_roundUp a2 64)))
theorem r_X4_load_43 (hP : WOK b w H0) {s : Sg} {a1 : Int32} {a2 : Int32} (hN : NN s) : Rx sc g_X4_load 3 ((43, [(0, .ref (b + 23)), (1, .int a1), (2, .int a2)], [])) (wd b w wl H0 s, kn) none (wd b w wl H0 (R_X4_load_43 s a1 a2), kn) := by
  show Rx sc g_X4_load 3 (43, [(0, .ref (b + 23)), (1, .int a1), (2, .int a2)], []) (wd b w wl H0 s, kn) none (wd b w wl H0 (R_X4_load_43 s a1 a2), kn)
  refine rx_k 2 (45, [(0, .ref (b + 23)), (1, .int a1), (2, .int a2)], [.int a1, .ref (b + 23)]) (fun _ _ => rfl) ?_
  refine rx_inv rfl rfl (rc_X4_has hP) rfl rfl rfl (q_recv (wg_23 hP)) rfl rfl ?_
  by_cases c0 : (D_X4_has s a1) = 0
  · refine rx_ifT rfl (bt c0) ?_
    rw [(show (R_X4_load_43 s a1 a2) = s from ((if_pos c0).trans rfl))]
    exact rx_rv rfl
  · refine rx_ifF rfl (bf c0) rfl ?_
    refine rx_k 1 (52, [(0, .ref (b + 23)), (1, .int a1), (2, .int a2)], [.ref (b + 23)]) (fun _ _ => rfl) ?_
    refine rx_getf rfl rfl (wg_23 hP) rfl ?_
    refine rx_k 3 (59, [(0, .ref (b + 23)), (1, .int a1), (2, .int a2)], [.int 64, .int a2, .int a1, .ref (b + 30)]) (fun _ _ => rfl) ?_
    refine rx_inv rfl rfl (rc_X11_roundUp) rfl rfl rfl rfl rfl rfl ?_
    refine rx_ist rfl rfl (wg_30 hP) rfl (ar_at (rg_X4_has c0)) (ws_30 hP (rg_X4_has c0)) ?_
    rw [(show (R_X4_load_43 s a1 a2) = (up s 30 a1.toNatClampNeg (D_X11_roundUp a2 64)) from ((if_neg c0).trans rfl))]
    exact rx_rv rfl
theorem nr_X4_load_43 {s : Sg} {a1 : Int32} {a2 : Int32} (hN : NN s) : NN ((R_X4_load_43 s a1 a2)) := by
  by_cases c0 : (D_X4_has s a1) = 0
  · rw [show (R_X4_load_43 s a1 a2) = s from ((if_pos c0).trans rfl)]
    exact hN
  · rw [show (R_X4_load_43 s a1 a2) = (up s 30 a1.toNatClampNeg (D_X11_roundUp a2 64)) from ((if_neg c0).trans rfl)]
    exact (nn_0 rfl hN)
noncomputable def D_X4_load (s : Sg) (a1 : Int32) : Sg := (R_X4_load_43 s a1 ((itr (uc2 (B_X4_load_5 s a1)) BIG (0, 64)).2))
theorem m_X4_load (hP : WOK b w H0) {s : Sg} {a1 : Int32} (hN : NN s) : Rx sc g_X4_load 3 ((0, [(0, .ref (b + 23)), (1, .int a1)], [])) (wd b w wl H0 s, kn) none (wd b w wl H0 (D_X4_load s a1), kn) := by
  show Rx sc g_X4_load 3 (0, [(0, .ref (b + 23)), (1, .int a1)], []) (wd b w wl H0 s, kn) none (wd b w wl H0 (D_X4_load s a1), kn)
  refine rx_k 4 (5, [(3, .int 0), (2, .int 64), (0, .ref (b + 23)), (1, .int a1)], []) (fun _ _ => rfl) ?_
  refine rx_lo am_X4_load (lo := [(0, .ref (b + 23)), (1, .int a1), (2, .int 64), (3, .int 0)]) (List.forall_mem_cons.mpr ⟨List.mem_of_getElem? (i := 2) rfl, (List.forall_mem_cons.mpr ⟨List.mem_of_getElem? (i := 3) rfl, (List.forall_mem_cons.mpr ⟨List.mem_of_getElem? (i := 1) rfl, (List.forall_mem_cons.mpr ⟨List.mem_of_getElem? (i := 0) rfl, (fun _ h => absurd h List.not_mem_nil)⟩)⟩)⟩)⟩) rfl ?_
  refine rx_loop2p (B := B_X4_load_5 s a1) (fr := (fr_X4_load_5 b w a1)) (E := (fe_X4_load_5 b w a1)) (hp := (wd b w wl H0 s, kn)) (fun z3 z2 oo hh9 hI9 hv9 hc9 he9 => b_X4_load_5 hP oo hh9 hN hv9 hc9 he9)  BIG 0 64 _ _  (by decide : (0 : Int) ≤ (0 : Int32).toInt) (le_enough (by decide : (0 : Int) ≤ (0 : Int32).toInt)) ?_
  rw [(show (D_X4_load s a1) = (R_X4_load_43 s a1 ((itr (uc2 (B_X4_load_5 s a1)) BIG (0, 64)).2)) from rfl)]
  exact r_X4_load_43 hP hN
theorem rc_X4_load (hP : WOK b w H0) {s : Sg} {a1 : Int32} (hN : NN s) : Rc sc 4 67 [.ref (b + 23), .int a1] (wd b w wl H0 s, kn) none (wd b w wl H0 (D_X4_load s a1), kn) := rx_mc (m_X4_load hP hN) rfl rfl (Nat.ble_eq_true_of_le (Nat.le_refl _)) (Nat.ble_eq_true_of_le (Nat.le_refl _))
theorem nn_X4_load {s : Sg} {a1 : Int32} (hN : NN s) : NN (D_X4_load s a1) := by
  rw [show (D_X4_load s a1) = (R_X4_load_43 s a1 ((itr (uc2 (B_X4_load_5 s a1)) BIG (0, 64)).2)) from rfl]
  exact (nr_X4_load_43 hN)
theorem fwr_X4_load_43 {s : Sg} {a1 : Int32} {a2 : Int32} {k j : Nat} (h30 : k ≠ 30) : (R_X4_load_43 s a1 a2) k j = s k j := by
  by_cases c0 : (D_X4_has s a1) = 0
  · rw [show (R_X4_load_43 s a1 a2) = s from ((if_pos c0).trans rfl)]
    first | done | exact rfl
  · rw [show (R_X4_load_43 s a1 a2) = (up s 30 a1.toNatClampNeg (D_X11_roundUp a2 64)) from ((if_neg c0).trans rfl)]
    first | done | exact ((up_a h30).trans rfl)
theorem fw_X4_load {s : Sg} {a1 : Int32} {k j : Nat} (h30 : k ≠ 30) : (D_X4_load s a1) k j = s k j := by
  rw [show (D_X4_load s a1) = (R_X4_load_43 s a1 ((itr (uc2 (B_X4_load_5 s a1)) BIG (0, 64)).2)) from rfl]
  first | done | exact ((fwr_X4_load_43 h30).trans rfl)
-- LinkHarbour$LibraryTable.makeGlobal
noncomputable def D_X4_makeGlobal (s : Sg) (a1 : Int32) : Sg := (if (D_X4_placeAmongGlobal s a1) = (-1) then (if 6 ≤ (s 23 14) then s else (up (up s 32 (s 23 14).toNatClampNeg a1) 23 14 ((s 23 14) + 1))) else s)
theorem m_X4_makeGlobal (hP : WOK b w H0) {s : Sg} {a1 : Int32} (hN : NN s) : Rx sc g_X4_makeGlobal 2 ((0, [(0, .ref (b + 23)), (1, .int a1)], [])) (wd b w wl H0 s, kn) none (wd b w wl H0 (D_X4_makeGlobal s a1), kn) := by
  show Rx sc g_X4_makeGlobal 2 (0, [(0, .ref (b + 23)), (1, .int a1)], []) (wd b w wl H0 s, kn) none (wd b w wl H0 (D_X4_makeGlobal s a1), kn)
  refine rx_k 2 (2, [(0, .ref (b + 23)), (1, .int a1)], [.int a1, .ref (b + 23)]) (fun _ _ => rfl) ?_
  refine rx_inv rfl rfl (rc_X4_placeAmongGlobal hP hN) rfl rfl rfl (q_recv (wg_23 hP)) rfl rfl ?_
  refine rx_k 1 (6, [(0, .ref (b + 23)), (1, .int a1)], [.int (-1), .int (D_X4_placeAmongGlobal s a1)]) (fun _ _ => rfl) ?_
  by_cases c0 : (D_X4_placeAmongGlobal s a1) = (-1)
  · refine rx_icF rfl (nf c0) rfl ?_
    refine rx_k 1 (10, [(0, .ref (b + 23)), (1, .int a1)], [.ref (b + 23)]) (fun _ _ => rfl) ?_
    refine rx_getf rfl rfl (wg_23 hP) rfl ?_
    refine rx_k 1 (15, [(0, .ref (b + 23)), (1, .int a1)], [.int 6, .int (s 23 14)]) (fun _ _ => rfl) ?_
    by_cases c1 : 6 ≤ (s 23 14)
    · refine rx_icT rfl (bt c1) ?_
      rw [(show (D_X4_makeGlobal s a1) = s from ((if_pos c0).trans ((if_pos c1).trans rfl)))]
      exact rx_rv rfl
    · refine rx_icF rfl (bf c1) rfl ?_
      refine rx_k 1 (19, [(0, .ref (b + 23)), (1, .int a1)], [.ref (b + 23)]) (fun _ _ => rfl) ?_
      refine rx_getf rfl rfl (wg_23 hP) rfl ?_
      refine rx_k 1 (23, [(0, .ref (b + 23)), (1, .int a1)], [.ref (b + 23), .ref (b + 32)]) (fun _ _ => rfl) ?_
      refine rx_getf rfl rfl (wg_23 hP) rfl ?_
      refine rx_k 1 (27, [(0, .ref (b + 23)), (1, .int a1)], [.int a1, .int (s 23 14), .ref (b + 32)]) (fun _ _ => rfl) ?_
      refine rx_ist rfl rfl (wg_32 hP) rfl (ar_at (rg_c (hN 23 14 rfl) c1 (m := 6) (n := 6) rfl)) (ws_32 hP (rg_c (hN 23 14 rfl) c1 (m := 6) (n := 6) rfl)) ?_
      refine rx_k 2 (30, [(0, .ref (b + 23)), (1, .int a1)], [.ref (b + 23), .ref (b + 23)]) (fun _ _ => rfl) ?_
      refine rx_getf (v := .int (s 23 14)) rfl rfl (wg_23 hP) (congrArg (fun z => some (Value.int z)) (rd_nk (by decide))) ?_
      refine rx_k 2 (35, [(0, .ref (b + 23)), (1, .int a1)], [.int ((s 23 14) + 1), .ref (b + 23)]) (fun _ _ => rfl) ?_
      refine rx_putf rfl rfl (wg_23 hP) rfl (ws_23_14 hP) ?_
      rw [(show (D_X4_makeGlobal s a1) = (up (up s 32 (s 23 14).toNatClampNeg a1) 23 14 ((s 23 14) + 1)) from ((if_pos c0).trans ((if_neg c1).trans rfl)))]
      exact rx_rv rfl
  · refine rx_icT rfl (nt c0) ?_
    rw [(show (D_X4_makeGlobal s a1) = s from ((if_neg c0).trans rfl))]
    exact rx_rv rfl
theorem rc_X4_makeGlobal (hP : WOK b w H0) {s : Sg} {a1 : Int32} (hN : NN s) : Rc sc 3 68 [.ref (b + 23), .int a1] (wd b w wl H0 s, kn) none (wd b w wl H0 (D_X4_makeGlobal s a1), kn) := rx_mc (m_X4_makeGlobal hP hN) rfl rfl (Nat.ble_eq_true_of_le (Nat.le_refl _)) (Nat.ble_eq_true_of_le (Nat.le_refl _))
theorem nn_X4_makeGlobal {s : Sg} {a1 : Int32} (hN : NN s) : NN (D_X4_makeGlobal s a1) := by
  by_cases c0 : (D_X4_placeAmongGlobal s a1) = (-1)
  · by_cases c1 : 6 ≤ (s 23 14)
    · rw [show (D_X4_makeGlobal s a1) = s from ((if_pos c0).trans ((if_pos c1).trans rfl))]
      exact hN
    · rw [show (D_X4_makeGlobal s a1) = (up (up s 32 (s 23 14).toNatClampNeg a1) 23 14 ((s 23 14) + 1)) from ((if_pos c0).trans ((if_neg c1).trans rfl))]
      exact (nn_c (nn_inc (rg_c (hN 23 14 rfl) c1 (m := 6) (n := 6) rfl).1 (lt_nle c1) (by decide)) (nn_0 rfl hN))
  · rw [show (D_X4_makeGlobal s a1) = s from ((if_neg c0).trans rfl)]
    exact hN
theorem fw_X4_makeGlobal {s : Sg} {a1 : Int32} {k j : Nat} (h23f14 : k ≠ 23 ∨ j ≠ 14) (h32 : k ≠ 32) : (D_X4_makeGlobal s a1) k j = s k j := by
  by_cases c0 : (D_X4_placeAmongGlobal s a1) = (-1)
  · by_cases c1 : 6 ≤ (s 23 14)
    · rw [show (D_X4_makeGlobal s a1) = s from ((if_pos c0).trans ((if_pos c1).trans rfl))]
      first | done | exact rfl
    · rw [show (D_X4_makeGlobal s a1) = (up (up s 32 (s 23 14).toNatClampNeg a1) 23 14 ((s 23 14) + 1)) from ((if_pos c0).trans ((if_neg c1).trans rfl))]
      first | done | exact ((up_f h23f14).trans ((up_a h32).trans rfl))
  · rw [show (D_X4_makeGlobal s a1) = s from ((if_neg c0).trans rfl)]
    first | done | exact rfl
-- LinkHarbour$LibraryTable.lowestOf
def fr_X4_lowestOf_2 (b w : Nat) (a0 : Int32) (x1 : Int32) : EF := (2, [(0, .int a0), (1, .int x1)], [])
def fe_X4_lowestOf_2 (b w : Nat) (a0 : Int32) (x1 : Int32) : EF := (24, [], [])
noncomputable def B_X4_lowestOf_2 (s : Sg) (a0 : Int32) (x1 : Int32) : Option (Option Int32) × (Int32) := (if 6 ≤ x1 then ((some none), x1) else (if (D_X11_hasBit a0 x1) = 0 then (none, (x1 + 1)) else (some (some x1), x1)))
theorem b_X4_lowestOf_2 (hP : WOK b w H0) {s : Sg} {a0 : Int32} {x1 : Int32} (o : Option Value) (h' : EH) (hN : NN s) (hv : 0 ≤ x1.toInt) (hc : ∀ (t1 : Int32), (B_X4_lowestOf_2 s a0 x1) = (none, t1) → x1.toInt < 2147483647 → t1 = x1 + 1 → Rx sc g_X4_lowestOf 1 (fr_X4_lowestOf_2 b w a0 t1) (wd b w wl H0 s, kn) o h') (he : ∀ (t1 : Int32), (B_X4_lowestOf_2 s a0 x1) = (some none, t1) → Rx sc g_X4_lowestOf 1 (fe_X4_lowestOf_2 b w a0 t1) (wd b w wl H0 s, kn) o h') (hr : ∀ (v : Int32) (t1 : Int32), (B_X4_lowestOf_2 s a0 x1) = (some (some v), t1) → o = some (.int v) ∧ h' = (wd b w wl H0 s, kn)) : Rx sc g_X4_lowestOf 1 (fr_X4_lowestOf_2 b w a0 x1) (wd b w wl H0 s, kn) o h' := by
  show Rx sc g_X4_lowestOf 1 (2, [(0, .int a0), (1, .int x1)], []) (wd b w wl H0 s, kn) o h'
  refine rx_k 2 (5, [(0, .int a0), (1, .int x1)], [.int 6, .int x1]) (fun _ _ => rfl) ?_
  by_cases c0 : 6 ≤ x1
  · refine rx_icT rfl (bt c0) ?_
    exact rx_lo am_X4_lowestOf (lo := []) (fun _ h => absurd h List.not_mem_nil) rfl (he _ (show (B_X4_lowestOf_2 s a0 x1) = ((some none), x1) from ((if_pos c0).trans rfl)))
  · refine rx_icF rfl (bf c0) rfl ?_
    refine rx_k 2 (10, [(0, .int a0), (1, .int x1)], [.int x1, .int a0]) (fun _ _ => rfl) ?_
    refine rx_inv rfl rfl (rc_X11_hasBit) rfl rfl rfl rfl rfl rfl ?_
    by_cases c1 : (D_X11_hasBit a0 x1) = 0
    · refine rx_ifT rfl (bt c1) ?_
      refine rx_k 2 (2, [(1, .int (x1 + 1)), (0, .int a0)], []) (fun _ _ => rfl) ?_
      refine rx_lo am_X4_lowestOf (lo := [(0, .int a0), (1, .int (x1 + 1))]) (List.forall_mem_cons.mpr ⟨List.mem_of_getElem? (i := 1) rfl, (List.forall_mem_cons.mpr ⟨List.mem_of_getElem? (i := 0) rfl, (fun _ h => absurd h List.not_mem_nil)⟩)⟩) rfl (hc _ (show (B_X4_lowestOf_2 s a0 x1) = (none, (x1 + 1)) from ((if_neg c0).trans ((if_pos c1).trans rfl))) (lt_nle c0) rfl)
    · refine rx_ifF rfl (bf c1) rfl ?_
      refine rx_k 1 (17, [(0, .int a0), (1, .int x1)], [.int x1]) (fun _ _ => rfl) ?_
      obtain ⟨hr1, hr2⟩ := hr _ _ (show (B_X4_lowestOf_2 s a0 x1) = (some (some x1), x1) from ((if_neg c0).trans ((if_neg c1).trans rfl)))
      rw [hr1, hr2]
      exact rx_ri rfl
noncomputable def R_X4_lowestOf_24 (s : Sg) : Int32 := (-1)
theorem r_X4_lowestOf_24 (hP : WOK b w H0) {s : Sg} (hN : NN s) : Rx sc g_X4_lowestOf 1 ((24, [], [])) (wd b w wl H0 s, kn) (some (.int (R_X4_lowestOf_24 s))) (wd b w wl H0 s, kn) := by
  show Rx sc g_X4_lowestOf 1 (24, [], []) (wd b w wl H0 s, kn) (some (.int (R_X4_lowestOf_24 s))) (wd b w wl H0 s, kn)
  refine rx_k 1 (25, [], [.int (-1)]) (fun _ _ => rfl) ?_
  rw [(show (R_X4_lowestOf_24 s) = (-1) from rfl)]
  exact rx_ri rfl
noncomputable def D_X4_lowestOf (s : Sg) (a0 : Int32) : Int32 := (match (itf (B_X4_lowestOf_2 s a0) BIG 0) with | some v => v | none => (R_X4_lowestOf_24 s))
theorem m_X4_lowestOf (hP : WOK b w H0) {s : Sg} {a0 : Int32} (hN : NN s) : Rx sc g_X4_lowestOf 1 ((0, [(0, .int a0)], [])) (wd b w wl H0 s, kn) (some (.int (D_X4_lowestOf s a0))) (wd b w wl H0 s, kn) := by
  show Rx sc g_X4_lowestOf 1 (0, [(0, .int a0)], []) (wd b w wl H0 s, kn) (some (.int (D_X4_lowestOf s a0))) (wd b w wl H0 s, kn)
  refine rx_k 2 (2, [(1, .int 0), (0, .int a0)], []) (fun _ _ => rfl) ?_
  refine rx_lo am_X4_lowestOf (lo := [(0, .int a0), (1, .int 0)]) (List.forall_mem_cons.mpr ⟨List.mem_of_getElem? (i := 1) rfl, (List.forall_mem_cons.mpr ⟨List.mem_of_getElem? (i := 0) rfl, (fun _ h => absurd h List.not_mem_nil)⟩)⟩) rfl ?_
  have e9 := (show (D_X4_lowestOf s a0) = (match (itf (B_X4_lowestOf_2 s a0) BIG 0) with | some v => v | none => (R_X4_lowestOf_24 s)) from rfl)
  refine rx_loopF1 (B := B_X4_lowestOf_2 s a0) (fr := (fr_X4_lowestOf_2 b w a0)) (E := (fe_X4_lowestOf_2 b w a0)) (hp := (wd b w wl H0 s, kn)) (fun z hv9 hc9 he9 hr9 => b_X4_lowestOf_2 hP _ _ hN hv9 hc9 he9 hr9) BIG 0 (by decide : (0 : Int) ≤ (0 : Int32).toInt) (le_enough (by decide : (0 : Int) ≤ (0 : Int32).toInt)) (fun e1 y => ?_) (fun v e1 => ?_)
  · rw [e9, e1]
    exact r_X4_lowestOf_24 hP hN
  · exact ⟨by rw [e9, e1], rfl⟩
theorem rc_X4_lowestOf (hP : WOK b w H0) {s : Sg} {a0 : Int32} (hN : NN s) : Rc sc 2 70 [.int a0] (wd b w wl H0 s, kn) (some (.int (D_X4_lowestOf s a0))) (wd b w wl H0 s, kn) := rx_mc (m_X4_lowestOf hP hN) rfl rfl (Nat.ble_eq_true_of_le (Nat.le_refl _)) (Nat.ble_eq_true_of_le (Nat.le_refl _))
-- LinkHarbour$LibraryTable.initialise
def fr_X4_initialise_17 (b w : Nat) (a2 : Int32) (x5 : Int32) (x3 : Int32) (x4 : Int32) : EF := (17, [(0, .ref (b + 23)), (2, .int a2), (3, .int x3), (4, .int x4), (5, .int x5)], [])
def fe_X4_initialise_17 (b w : Nat) (a2 : Int32) (x5 : Int32) (x3 : Int32) (x4 : Int32) : EF := (143, [], [])
noncomputable def B_X4_initialise_17 (a2 : Int32) (x5 : Int32) (x3 : Int32) (x4 : Int32) (s : Sg) : Bool × (Int32 × Int32 × Int32 × Sg) := (if 12 ≤ x5 then (false, (x5, x3, x4, s)) else (if x3 ≤ 0 then (false, (x5, x3, x4, s)) else (if 6 < x3 then (false, (x5, x3, x4, s)) else (if (D_X4_lowestOf s ((D_X4_neededNow s (s 35 (x3 - 1).toNatClampNeg)) &&& (x4 ^^^ (-1)))) = (-1) then (if (D_X11_hasBit a2 (s 35 (x3 - 1).toNatClampNeg)) = 0 then (true, ((x5 + 1), (x3 + (-1)), x4, s)) else (if 6 ≤ (s 23 15) then (true, ((x5 + 1), (x3 + (-1)), x4, s)) else (true, ((x5 + 1), (x3 + (-1)), x4, (up (up s 33 (s 23 15).toNatClampNeg (s 35 (x3 - 1).toNatClampNeg)) 23 15 ((s 23 15) + 1)))))) else (if 6 ≤ x3 then (if (D_X11_hasBit a2 (s 35 (x3 - 1).toNatClampNeg)) = 0 then (true, ((x5 + 1), (x3 + (-1)), x4, s)) else (if 6 ≤ (s 23 15) then (true, ((x5 + 1), (x3 + (-1)), x4, s)) else (true, ((x5 + 1), (x3 + (-1)), x4, (up (up s 33 (s 23 15).toNatClampNeg (s 35 (x3 - 1).toNatClampNeg)) 23 15 ((s 23 15) + 1)))))) else (true, ((x5 + 1), (x3 + 1), (x4 ||| (1 <<< ((D_X4_lowestOf s ((D_X4_neededNow s (s 35 (x3 - 1).toNatClampNeg)) &&& (x4 ^^^ (-1)))) &&& 31))), (up s 35 x3.toNatClampNeg (D_X4_lowestOf s ((D_X4_neededNow s (s 35 (x3 - 1).toNatClampNeg)) &&& (x4 ^^^ (-1))))))))))))
theorem b_X4_initialise_17 (hP : WOK b w H0) {s : Sg} {a2 : Int32} {x5 : Int32} {x3 : Int32} {x4 : Int32} (o : Option Value) (h' : EH) (hN : NN s) (hv : 0 ≤ x5.toInt) (hc : ∀ (t5 : Int32) (t3 : Int32) (t4 : Int32) (ts : Sg), (B_X4_initialise_17 a2 x5 x3 x4 s) = (true, (t5, t3, t4, ts)) → x5.toInt < 2147483647 → t5 = x5 + 1 → Rx sc g_X4_initialise 2 (fr_X4_initialise_17 b w a2 t5 t3 t4) (wd b w wl H0 ts, kn) o h') (he : ∀ (t5 : Int32) (t3 : Int32) (t4 : Int32) (ts : Sg), (B_X4_initialise_17 a2 x5 x3 x4 s) = (false, (t5, t3, t4, ts)) → Rx sc g_X4_initialise 2 (fe_X4_initialise_17 b w a2 t5 t3 t4) (wd b w wl H0 ts, kn) o h') : Rx sc g_X4_initialise 2 (fr_X4_initialise_17 b w a2 x5 x3 x4) (wd b w wl H0 s, kn) o h' := by
  show Rx sc g_X4_initialise 2 (17, [(0, .ref (b + 23)), (2, .int a2), (3, .int x3), (4, .int x4), (5, .int x5)], []) (wd b w wl H0 s, kn) o h'
  refine rx_k 2 (21, [(0, .ref (b + 23)), (2, .int a2), (3, .int x3), (4, .int x4), (5, .int x5)], [.int 12, .int x5]) (fun _ _ => rfl) ?_
  by_cases c0 : 12 ≤ x5
  · refine rx_icT rfl (bt c0) ?_
    exact rx_lo am_X4_initialise (lo := []) (fun _ h => absurd h List.not_mem_nil) rfl (he _ _ _ _ (show (B_X4_initialise_17 a2 x5 x3 x4 s) = (false, (x5, x3, x4, s)) from ((if_pos c0).trans rfl)))
  · refine rx_icF rfl (bf c0) rfl ?_
    refine rx_k 1 (25, [(0, .ref (b + 23)), (2, .int a2), (3, .int x3), (4, .int x4), (5, .int x5)], [.int x3]) (fun _ _ => rfl) ?_
    by_cases c1 : x3 ≤ 0
    · refine rx_ifT rfl (bt c1) ?_
      exact rx_lo am_X4_initialise (lo := []) (fun _ h => absurd h List.not_mem_nil) rfl (he _ _ _ _ (show (B_X4_initialise_17 a2 x5 x3 x4 s) = (false, (x5, x3, x4, s)) from ((if_neg c0).trans ((if_pos c1).trans rfl))))
    · refine rx_ifF rfl (bf c1) rfl ?_
      refine rx_k 2 (31, [(0, .ref (b + 23)), (2, .int a2), (3, .int x3), (4, .int x4), (5, .int x5)], [.int 6, .int x3]) (fun _ _ => rfl) ?_
      by_cases c2 : 6 < x3
      · refine rx_icT rfl (bt c2) ?_
        exact rx_lo am_X4_initialise (lo := []) (fun _ h => absurd h List.not_mem_nil) rfl (he _ _ _ _ (show (B_X4_initialise_17 a2 x5 x3 x4 s) = (false, (x5, x3, x4, s)) from ((if_neg c0).trans ((if_neg c1).trans ((if_pos c2).trans rfl)))))
      · refine rx_icF rfl (bf c2) rfl ?_
        refine rx_k 1 (35, [(0, .ref (b + 23)), (2, .int a2), (3, .int x3), (4, .int x4), (5, .int x5)], [.ref (b + 23)]) (fun _ _ => rfl) ?_
        refine rx_getf rfl rfl (wg_23 hP) rfl ?_
        refine rx_k 3 (41, [(0, .ref (b + 23)), (2, .int a2), (3, .int x3), (4, .int x4), (5, .int x5)], [.int (x3 - 1), .ref (b + 35)]) (fun _ _ => rfl) ?_
        refine rx_ild rfl rfl (wg_35 hP) (ar_at (rg_dec (i_gt1 c1) (i_lt3 (Int32.not_lt.mp c2) (m := 6) (n := 6) rfl) (by decide))) ?_
        refine rx_k 3 (47, [(6, .int (s 35 (x3 - 1).toNatClampNeg)), (0, .ref (b + 23)), (2, .int a2), (3, .int x3), (4, .int x4), (5, .int x5)], [.int (s 35 (x3 - 1).toNatClampNeg), .ref (b + 23)]) (fun _ _ => rfl) ?_
        refine rx_inv rfl rfl (rc_X4_neededNow hP) rfl rfl rfl (q_recv (wg_23 hP)) rfl rfl ?_
        refine rx_k 4 (55, [(6, .int (s 35 (x3 - 1).toNatClampNeg)), (0, .ref (b + 23)), (2, .int a2), (3, .int x3), (4, .int x4), (5, .int x5)], [.int ((D_X4_neededNow s (s 35 (x3 - 1).toNatClampNeg)) &&& (x4 ^^^ (-1)))]) (fun _ _ => rfl) ?_
        refine rx_inv rfl rfl (rc_X4_lowestOf hP hN) rfl rfl rfl rfl rfl rfl ?_
        refine rx_k 3 (63, [(7, .int (D_X4_lowestOf s ((D_X4_neededNow s (s 35 (x3 - 1).toNatClampNeg)) &&& (x4 ^^^ (-1))))), (6, .int (s 35 (x3 - 1).toNatClampNeg)), (0, .ref (b + 23)), (2, .int a2), (3, .int x3), (4, .int x4), (5, .int x5)], [.int (-1), .int (D_X4_lowestOf s ((D_X4_neededNow s (s 35 (x3 - 1).toNatClampNeg)) &&& (x4 ^^^ (-1))))]) (fun _ _ => rfl) ?_
        by_cases c3 : (D_X4_lowestOf s ((D_X4_neededNow s (s 35 (x3 - 1).toNatClampNeg)) &&& (x4 ^^^ (-1)))) = (-1)
        · refine rx_icT rfl (bt c3) ?_
          refine rx_k 3 (101, [(3, .int (x3 + (-1))), (7, .int (D_X4_lowestOf s ((D_X4_neededNow s (s 35 (x3 - 1).toNatClampNeg)) &&& (x4 ^^^ (-1))))), (6, .int (s 35 (x3 - 1).toNatClampNeg)), (0, .ref (b + 23)), (2, .int a2), (4, .int x4), (5, .int x5)], [.int (s 35 (x3 - 1).toNatClampNeg), .int a2]) (fun _ _ => rfl) ?_
          refine rx_inv rfl rfl (rc_X11_hasBit) rfl rfl rfl rfl rfl rfl ?_
          by_cases c4 : (D_X11_hasBit a2 (s 35 (x3 - 1).toNatClampNeg)) = 0
          · refine rx_ifT rfl (bt c4) ?_
            refine rx_k 2 (17, [(5, .int (x5 + 1)), (3, .int (x3 + (-1))), (7, .int (D_X4_lowestOf s ((D_X4_neededNow s (s 35 (x3 - 1).toNatClampNeg)) &&& (x4 ^^^ (-1))))), (6, .int (s 35 (x3 - 1).toNatClampNeg)), (0, .ref (b + 23)), (2, .int a2), (4, .int x4)], []) (fun _ _ => rfl) ?_
            refine rx_lo am_X4_initialise (lo := [(0, .ref (b + 23)), (2, .int a2), (3, .int (x3 + (-1))), (4, .int x4), (5, .int (x5 + 1))]) (List.forall_mem_cons.mpr ⟨List.mem_of_getElem? (i := 4) rfl, (List.forall_mem_cons.mpr ⟨List.mem_of_getElem? (i := 5) rfl, (List.forall_mem_cons.mpr ⟨List.mem_of_getElem? (i := 1) rfl, (List.forall_mem_cons.mpr ⟨List.mem_of_getElem? (i := 6) rfl, (List.forall_mem_cons.mpr ⟨List.mem_of_getElem? (i := 0) rfl, (fun _ h => absurd h List.not_mem_nil)⟩)⟩)⟩)⟩)⟩) rfl (hc _ _ _ _ (show (B_X4_initialise_17 a2 x5 x3 x4 s) = (true, ((x5 + 1), (x3 + (-1)), x4, s)) from ((if_neg c0).trans ((if_neg c1).trans ((if_neg c2).trans ((if_pos c3).trans ((if_pos c4).trans rfl)))))) (lt_nle c0) rfl)
          · refine rx_ifF rfl (bf c4) rfl ?_
            refine rx_k 1 (108, [(3, .int (x3 + (-1))), (7, .int (D_X4_lowestOf s ((D_X4_neededNow s (s 35 (x3 - 1).toNatClampNeg)) &&& (x4 ^^^ (-1))))), (6, .int (s 35 (x3 - 1).toNatClampNeg)), (0, .ref (b + 23)), (2, .int a2), (4, .int x4), (5, .int x5)], [.ref (b + 23)]) (fun _ _ => rfl) ?_
            refine rx_getf rfl rfl (wg_23 hP) rfl ?_
            refine rx_k 1 (113, [(3, .int (x3 + (-1))), (7, .int (D_X4_lowestOf s ((D_X4_neededNow s (s 35 (x3 - 1).toNatClampNeg)) &&& (x4 ^^^ (-1))))), (6, .int (s 35 (x3 - 1).toNatClampNeg)), (0, .ref (b + 23)), (2, .int a2), (4, .int x4), (5, .int x5)], [.int 6, .int (s 23 15)]) (fun _ _ => rfl) ?_
            by_cases c5 : 6 ≤ (s 23 15)
            · refine rx_icT rfl (bt c5) ?_
              refine rx_k 2 (17, [(5, .int (x5 + 1)), (3, .int (x3 + (-1))), (7, .int (D_X4_lowestOf s ((D_X4_neededNow s (s 35 (x3 - 1).toNatClampNeg)) &&& (x4 ^^^ (-1))))), (6, .int (s 35 (x3 - 1).toNatClampNeg)), (0, .ref (b + 23)), (2, .int a2), (4, .int x4)], []) (fun _ _ => rfl) ?_
              refine rx_lo am_X4_initialise (lo := [(0, .ref (b + 23)), (2, .int a2), (3, .int (x3 + (-1))), (4, .int x4), (5, .int (x5 + 1))]) (List.forall_mem_cons.mpr ⟨List.mem_of_getElem? (i := 4) rfl, (List.forall_mem_cons.mpr ⟨List.mem_of_getElem? (i := 5) rfl, (List.forall_mem_cons.mpr ⟨List.mem_of_getElem? (i := 1) rfl, (List.forall_mem_cons.mpr ⟨List.mem_of_getElem? (i := 6) rfl, (List.forall_mem_cons.mpr ⟨List.mem_of_getElem? (i := 0) rfl, (fun _ h => absurd h List.not_mem_nil)⟩)⟩)⟩)⟩)⟩) rfl (hc _ _ _ _ (show (B_X4_initialise_17 a2 x5 x3 x4 s) = (true, ((x5 + 1), (x3 + (-1)), x4, s)) from ((if_neg c0).trans ((if_neg c1).trans ((if_neg c2).trans ((if_pos c3).trans ((if_neg c4).trans ((if_pos c5).trans rfl))))))) (lt_nle c0) rfl)
            · refine rx_icF rfl (bf c5) rfl ?_
              refine rx_k 1 (117, [(3, .int (x3 + (-1))), (7, .int (D_X4_lowestOf s ((D_X4_neededNow s (s 35 (x3 - 1).toNatClampNeg)) &&& (x4 ^^^ (-1))))), (6, .int (s 35 (x3 - 1).toNatClampNeg)), (0, .ref (b + 23)), (2, .int a2), (4, .int x4), (5, .int x5)], [.ref (b + 23)]) (fun _ _ => rfl) ?_
              refine rx_getf rfl rfl (wg_23 hP) rfl ?_
              refine rx_k 1 (121, [(3, .int (x3 + (-1))), (7, .int (D_X4_lowestOf s ((D_X4_neededNow s (s 35 (x3 - 1).toNatClampNeg)) &&& (x4 ^^^ (-1))))), (6, .int (s 35 (x3 - 1).toNatClampNeg)), (0, .ref (b + 23)), (2, .int a2), (4, .int x4), (5, .int x5)], [.ref (b + 23), .ref (b + 33)]) (fun _ _ => rfl) ?_
              refine rx_getf rfl rfl (wg_23 hP) rfl ?_
              refine rx_k 1 (126, [(3, .int (x3 + (-1))), (7, .int (D_X4_lowestOf s ((D_X4_neededNow s (s 35 (x3 - 1).toNatClampNeg)) &&& (x4 ^^^ (-1))))), (6, .int (s 35 (x3 - 1).toNatClampNeg)), (0, .ref (b + 23)), (2, .int a2), (4, .int x4), (5, .int x5)], [.int (s 35 (x3 - 1).toNatClampNeg), .int (s 23 15), .ref (b + 33)]) (fun _ _ => rfl) ?_
              refine rx_ist rfl rfl (wg_33 hP) rfl (ar_at (rg_c (hN 23 15 rfl) c5 (m := 6) (n := 6) rfl)) (ws_33 hP (rg_c (hN 23 15 rfl) c5 (m := 6) (n := 6) rfl)) ?_
              refine rx_k 2 (129, [(3, .int (x3 + (-1))), (7, .int (D_X4_lowestOf s ((D_X4_neededNow s (s 35 (x3 - 1).toNatClampNeg)) &&& (x4 ^^^ (-1))))), (6, .int (s 35 (x3 - 1).toNatClampNeg)), (0, .ref (b + 23)), (2, .int a2), (4, .int x4), (5, .int x5)], [.ref (b + 23), .ref (b + 23)]) (fun _ _ => rfl) ?_
              refine rx_getf (v := .int (s 23 15)) rfl rfl (wg_23 hP) (congrArg (fun z => some (Value.int z)) (rd_nk (by decide))) ?_
              refine rx_k 2 (134, [(3, .int (x3 + (-1))), (7, .int (D_X4_lowestOf s ((D_X4_neededNow s (s 35 (x3 - 1).toNatClampNeg)) &&& (x4 ^^^ (-1))))), (6, .int (s 35 (x3 - 1).toNatClampNeg)), (0, .ref (b + 23)), (2, .int a2), (4, .int x4), (5, .int x5)], [.int ((s 23 15) + 1), .ref (b + 23)]) (fun _ _ => rfl) ?_
              refine rx_putf rfl rfl (wg_23 hP) rfl (ws_23_15 hP) ?_
              refine rx_k 2 (17, [(5, .int (x5 + 1)), (3, .int (x3 + (-1))), (7, .int (D_X4_lowestOf s ((D_X4_neededNow s (s 35 (x3 - 1).toNatClampNeg)) &&& (x4 ^^^ (-1))))), (6, .int (s 35 (x3 - 1).toNatClampNeg)), (0, .ref (b + 23)), (2, .int a2), (4, .int x4)], []) (fun _ _ => rfl) ?_
              refine rx_lo am_X4_initialise (lo := [(0, .ref (b + 23)), (2, .int a2), (3, .int (x3 + (-1))), (4, .int x4), (5, .int (x5 + 1))]) (List.forall_mem_cons.mpr ⟨List.mem_of_getElem? (i := 4) rfl, (List.forall_mem_cons.mpr ⟨List.mem_of_getElem? (i := 5) rfl, (List.forall_mem_cons.mpr ⟨List.mem_of_getElem? (i := 1) rfl, (List.forall_mem_cons.mpr ⟨List.mem_of_getElem? (i := 6) rfl, (List.forall_mem_cons.mpr ⟨List.mem_of_getElem? (i := 0) rfl, (fun _ h => absurd h List.not_mem_nil)⟩)⟩)⟩)⟩)⟩) rfl (hc _ _ _ _ (show (B_X4_initialise_17 a2 x5 x3 x4 s) = (true, ((x5 + 1), (x3 + (-1)), x4, (up (up s 33 (s 23 15).toNatClampNeg (s 35 (x3 - 1).toNatClampNeg)) 23 15 ((s 23 15) + 1)))) from ((if_neg c0).trans ((if_neg c1).trans ((if_neg c2).trans ((if_pos c3).trans ((if_neg c4).trans ((if_neg c5).trans rfl))))))) (lt_nle c0) rfl)
        · refine rx_icF rfl (bf c3) rfl ?_
          refine rx_k 2 (69, [(7, .int (D_X4_lowestOf s ((D_X4_neededNow s (s 35 (x3 - 1).toNatClampNeg)) &&& (x4 ^^^ (-1))))), (6, .int (s 35 (x3 - 1).toNatClampNeg)), (0, .ref (b + 23)), (2, .int a2), (3, .int x3), (4, .int x4), (5, .int x5)], [.int 6, .int x3]) (fun _ _ => rfl) ?_
          by_cases c6 : 6 ≤ x3
          · refine rx_icT rfl (bt c6) ?_
            refine rx_k 3 (101, [(3, .int (x3 + (-1))), (7, .int (D_X4_lowestOf s ((D_X4_neededNow s (s 35 (x3 - 1).toNatClampNeg)) &&& (x4 ^^^ (-1))))), (6, .int (s 35 (x3 - 1).toNatClampNeg)), (0, .ref (b + 23)), (2, .int a2), (4, .int x4), (5, .int x5)], [.int (s 35 (x3 - 1).toNatClampNeg), .int a2]) (fun _ _ => rfl) ?_
            refine rx_inv rfl rfl (rc_X11_hasBit) rfl rfl rfl rfl rfl rfl ?_
            by_cases c7 : (D_X11_hasBit a2 (s 35 (x3 - 1).toNatClampNeg)) = 0
            · refine rx_ifT rfl (bt c7) ?_
              refine rx_k 2 (17, [(5, .int (x5 + 1)), (3, .int (x3 + (-1))), (7, .int (D_X4_lowestOf s ((D_X4_neededNow s (s 35 (x3 - 1).toNatClampNeg)) &&& (x4 ^^^ (-1))))), (6, .int (s 35 (x3 - 1).toNatClampNeg)), (0, .ref (b + 23)), (2, .int a2), (4, .int x4)], []) (fun _ _ => rfl) ?_
              refine rx_lo am_X4_initialise (lo := [(0, .ref (b + 23)), (2, .int a2), (3, .int (x3 + (-1))), (4, .int x4), (5, .int (x5 + 1))]) (List.forall_mem_cons.mpr ⟨List.mem_of_getElem? (i := 4) rfl, (List.forall_mem_cons.mpr ⟨List.mem_of_getElem? (i := 5) rfl, (List.forall_mem_cons.mpr ⟨List.mem_of_getElem? (i := 1) rfl, (List.forall_mem_cons.mpr ⟨List.mem_of_getElem? (i := 6) rfl, (List.forall_mem_cons.mpr ⟨List.mem_of_getElem? (i := 0) rfl, (fun _ h => absurd h List.not_mem_nil)⟩)⟩)⟩)⟩)⟩) rfl (hc _ _ _ _ (show (B_X4_initialise_17 a2 x5 x3 x4 s) = (true, ((x5 + 1), (x3 + (-1)), x4, s)) from ((if_neg c0).trans ((if_neg c1).trans ((if_neg c2).trans ((if_neg c3).trans ((if_pos c6).trans ((if_pos c7).trans rfl))))))) (lt_nle c0) rfl)
            · refine rx_ifF rfl (bf c7) rfl ?_
              refine rx_k 1 (108, [(3, .int (x3 + (-1))), (7, .int (D_X4_lowestOf s ((D_X4_neededNow s (s 35 (x3 - 1).toNatClampNeg)) &&& (x4 ^^^ (-1))))), (6, .int (s 35 (x3 - 1).toNatClampNeg)), (0, .ref (b + 23)), (2, .int a2), (4, .int x4), (5, .int x5)], [.ref (b + 23)]) (fun _ _ => rfl) ?_
              refine rx_getf rfl rfl (wg_23 hP) rfl ?_
              refine rx_k 1 (113, [(3, .int (x3 + (-1))), (7, .int (D_X4_lowestOf s ((D_X4_neededNow s (s 35 (x3 - 1).toNatClampNeg)) &&& (x4 ^^^ (-1))))), (6, .int (s 35 (x3 - 1).toNatClampNeg)), (0, .ref (b + 23)), (2, .int a2), (4, .int x4), (5, .int x5)], [.int 6, .int (s 23 15)]) (fun _ _ => rfl) ?_
              by_cases c8 : 6 ≤ (s 23 15)
              · refine rx_icT rfl (bt c8) ?_
                refine rx_k 2 (17, [(5, .int (x5 + 1)), (3, .int (x3 + (-1))), (7, .int (D_X4_lowestOf s ((D_X4_neededNow s (s 35 (x3 - 1).toNatClampNeg)) &&& (x4 ^^^ (-1))))), (6, .int (s 35 (x3 - 1).toNatClampNeg)), (0, .ref (b + 23)), (2, .int a2), (4, .int x4)], []) (fun _ _ => rfl) ?_
                refine rx_lo am_X4_initialise (lo := [(0, .ref (b + 23)), (2, .int a2), (3, .int (x3 + (-1))), (4, .int x4), (5, .int (x5 + 1))]) (List.forall_mem_cons.mpr ⟨List.mem_of_getElem? (i := 4) rfl, (List.forall_mem_cons.mpr ⟨List.mem_of_getElem? (i := 5) rfl, (List.forall_mem_cons.mpr ⟨List.mem_of_getElem? (i := 1) rfl, (List.forall_mem_cons.mpr ⟨List.mem_of_getElem? (i := 6) rfl, (List.forall_mem_cons.mpr ⟨List.mem_of_getElem? (i := 0) rfl, (fun _ h => absurd h List.not_mem_nil)⟩)⟩)⟩)⟩)⟩) rfl (hc _ _ _ _ (show (B_X4_initialise_17 a2 x5 x3 x4 s) = (true, ((x5 + 1), (x3 + (-1)), x4, s)) from ((if_neg c0).trans ((if_neg c1).trans ((if_neg c2).trans ((if_neg c3).trans ((if_pos c6).trans ((if_neg c7).trans ((if_pos c8).trans rfl)))))))) (lt_nle c0) rfl)
              · refine rx_icF rfl (bf c8) rfl ?_
                refine rx_k 1 (117, [(3, .int (x3 + (-1))), (7, .int (D_X4_lowestOf s ((D_X4_neededNow s (s 35 (x3 - 1).toNatClampNeg)) &&& (x4 ^^^ (-1))))), (6, .int (s 35 (x3 - 1).toNatClampNeg)), (0, .ref (b + 23)), (2, .int a2), (4, .int x4), (5, .int x5)], [.ref (b + 23)]) (fun _ _ => rfl) ?_
                refine rx_getf rfl rfl (wg_23 hP) rfl ?_
                refine rx_k 1 (121, [(3, .int (x3 + (-1))), (7, .int (D_X4_lowestOf s ((D_X4_neededNow s (s 35 (x3 - 1).toNatClampNeg)) &&& (x4 ^^^ (-1))))), (6, .int (s 35 (x3 - 1).toNatClampNeg)), (0, .ref (b + 23)), (2, .int a2), (4, .int x4), (5, .int x5)], [.ref (b + 23), .ref (b + 33)]) (fun _ _ => rfl) ?_
                refine rx_getf rfl rfl (wg_23 hP) rfl ?_
                refine rx_k 1 (126, [(3, .int (x3 + (-1))), (7, .int (D_X4_lowestOf s ((D_X4_neededNow s (s 35 (x3 - 1).toNatClampNeg)) &&& (x4 ^^^ (-1))))), (6, .int (s 35 (x3 - 1).toNatClampNeg)), (0, .ref (b + 23)), (2, .int a2), (4, .int x4), (5, .int x5)], [.int (s 35 (x3 - 1).toNatClampNeg), .int (s 23 15), .ref (b + 33)]) (fun _ _ => rfl) ?_
                refine rx_ist rfl rfl (wg_33 hP) rfl (ar_at (rg_c (hN 23 15 rfl) c8 (m := 6) (n := 6) rfl)) (ws_33 hP (rg_c (hN 23 15 rfl) c8 (m := 6) (n := 6) rfl)) ?_
                refine rx_k 2 (129, [(3, .int (x3 + (-1))), (7, .int (D_X4_lowestOf s ((D_X4_neededNow s (s 35 (x3 - 1).toNatClampNeg)) &&& (x4 ^^^ (-1))))), (6, .int (s 35 (x3 - 1).toNatClampNeg)), (0, .ref (b + 23)), (2, .int a2), (4, .int x4), (5, .int x5)], [.ref (b + 23), .ref (b + 23)]) (fun _ _ => rfl) ?_
                refine rx_getf (v := .int (s 23 15)) rfl rfl (wg_23 hP) (congrArg (fun z => some (Value.int z)) (rd_nk (by decide))) ?_
                refine rx_k 2 (134, [(3, .int (x3 + (-1))), (7, .int (D_X4_lowestOf s ((D_X4_neededNow s (s 35 (x3 - 1).toNatClampNeg)) &&& (x4 ^^^ (-1))))), (6, .int (s 35 (x3 - 1).toNatClampNeg)), (0, .ref (b + 23)), (2, .int a2), (4, .int x4), (5, .int x5)], [.int ((s 23 15) + 1), .ref (b + 23)]) (fun _ _ => rfl) ?_
                refine rx_putf rfl rfl (wg_23 hP) rfl (ws_23_15 hP) ?_
                refine rx_k 2 (17, [(5, .int (x5 + 1)), (3, .int (x3 + (-1))), (7, .int (D_X4_lowestOf s ((D_X4_neededNow s (s 35 (x3 - 1).toNatClampNeg)) &&& (x4 ^^^ (-1))))), (6, .int (s 35 (x3 - 1).toNatClampNeg)), (0, .ref (b + 23)), (2, .int a2), (4, .int x4)], []) (fun _ _ => rfl) ?_
                refine rx_lo am_X4_initialise (lo := [(0, .ref (b + 23)), (2, .int a2), (3, .int (x3 + (-1))), (4, .int x4), (5, .int (x5 + 1))]) (List.forall_mem_cons.mpr ⟨List.mem_of_getElem? (i := 4) rfl, (List.forall_mem_cons.mpr ⟨List.mem_of_getElem? (i := 5) rfl, (List.forall_mem_cons.mpr ⟨List.mem_of_getElem? (i := 1) rfl, (List.forall_mem_cons.mpr ⟨List.mem_of_getElem? (i := 6) rfl, (List.forall_mem_cons.mpr ⟨List.mem_of_getElem? (i := 0) rfl, (fun _ h => absurd h List.not_mem_nil)⟩)⟩)⟩)⟩)⟩) rfl (hc _ _ _ _ (show (B_X4_initialise_17 a2 x5 x3 x4 s) = (true, ((x5 + 1), (x3 + (-1)), x4, (up (up s 33 (s 23 15).toNatClampNeg (s 35 (x3 - 1).toNatClampNeg)) 23 15 ((s 23 15) + 1)))) from ((if_neg c0).trans ((if_neg c1).trans ((if_neg c2).trans ((if_neg c3).trans ((if_pos c6).trans ((if_neg c7).trans ((if_neg c8).trans rfl)))))))) (lt_nle c0) rfl)
          · refine rx_icF rfl (bf c6) rfl ?_
            refine rx_k 1 (73, [(7, .int (D_X4_lowestOf s ((D_X4_neededNow s (s 35 (x3 - 1).toNatClampNeg)) &&& (x4 ^^^ (-1))))), (6, .int (s 35 (x3 - 1).toNatClampNeg)), (0, .ref (b + 23)), (2, .int a2), (3, .int x3), (4, .int x4), (5, .int x5)], [.ref (b + 23)]) (fun _ _ => rfl) ?_
            refine rx_getf rfl rfl (wg_23 hP) rfl ?_
            refine rx_k 2 (79, [(7, .int (D_X4_lowestOf s ((D_X4_neededNow s (s 35 (x3 - 1).toNatClampNeg)) &&& (x4 ^^^ (-1))))), (6, .int (s 35 (x3 - 1).toNatClampNeg)), (0, .ref (b + 23)), (2, .int a2), (3, .int x3), (4, .int x4), (5, .int x5)], [.int (D_X4_lowestOf s ((D_X4_neededNow s (s 35 (x3 - 1).toNatClampNeg)) &&& (x4 ^^^ (-1)))), .int x3, .ref (b + 35)]) (fun _ _ => rfl) ?_
            refine rx_ist rfl rfl (wg_35 hP) rfl (ar_at (rg_c (i_gt0 c1 (m := 0) (n := 0) rfl (by decide)) c6 (m := 6) (n := 6) rfl)) (ws_35 hP (rg_c (i_gt0 c1 (m := 0) (n := 0) rfl (by decide)) c6 (m := 6) (n := 6) rfl)) ?_
            refine rx_k 10 (17, [(5, .int (x5 + 1)), (4, .int (x4 ||| (1 <<< ((D_X4_lowestOf s ((D_X4_neededNow s (s 35 (x3 - 1).toNatClampNeg)) &&& (x4 ^^^ (-1)))) &&& 31)))), (3, .int (x3 + 1)), (7, .int (D_X4_lowestOf s ((D_X4_neededNow s (s 35 (x3 - 1).toNatClampNeg)) &&& (x4 ^^^ (-1))))), (6, .int (s 35 (x3 - 1).toNatClampNeg)), (0, .ref (b + 23)), (2, .int a2)], []) (fun _ _ => rfl) ?_
            refine rx_lo am_X4_initialise (lo := [(0, .ref (b + 23)), (2, .int a2), (3, .int (x3 + 1)), (4, .int (x4 ||| (1 <<< ((D_X4_lowestOf s ((D_X4_neededNow s (s 35 (x3 - 1).toNatClampNeg)) &&& (x4 ^^^ (-1)))) &&& 31)))), (5, .int (x5 + 1))]) (List.forall_mem_cons.mpr ⟨List.mem_of_getElem? (i := 5) rfl, (List.forall_mem_cons.mpr ⟨List.mem_of_getElem? (i := 6) rfl, (List.forall_mem_cons.mpr ⟨List.mem_of_getElem? (i := 2) rfl, (List.forall_mem_cons.mpr ⟨List.mem_of_getElem? (i := 1) rfl, (List.forall_mem_cons.mpr ⟨List.mem_of_getElem? (i := 0) rfl, (fun _ h => absurd h List.not_mem_nil)⟩)⟩)⟩)⟩)⟩) rfl (hc _ _ _ _ (show (B_X4_initialise_17 a2 x5 x3 x4 s) = (true, ((x5 + 1), (x3 + 1), (x4 ||| (1 <<< ((D_X4_lowestOf s ((D_X4_neededNow s (s 35 (x3 - 1).toNatClampNeg)) &&& (x4 ^^^ (-1)))) &&& 31))), (up s 35 x3.toNatClampNeg (D_X4_lowestOf s ((D_X4_neededNow s (s 35 (x3 - 1).toNatClampNeg)) &&& (x4 ^^^ (-1))))))) from ((if_neg c0).trans ((if_neg c1).trans ((if_neg c2).trans ((if_neg c3).trans ((if_neg c6).trans rfl)))))) (lt_nle c0) rfl)
theorem nb_X4_initialise_17 {a2 : Int32} {x5 : Int32} {x3 : Int32} {x4 : Int32} {s : Sg} (hN : NN s) : ∃ (f : Bool) (t5 : Int32) (t3 : Int32) (t4 : Int32) (ts : Sg), (B_X4_initialise_17 a2 x5 x3 x4 s) = (f, (t5, t3, t4, ts)) ∧ NN ts := by
  by_cases c0 : 12 ≤ x5
  · exact ⟨_, _, _, _, _, (show (B_X4_initialise_17 a2 x5 x3 x4 s) = (false, (x5, x3, x4, s)) from ((if_pos c0).trans rfl)), hN⟩
  · by_cases c1 : x3 ≤ 0
    · exact ⟨_, _, _, _, _, (show (B_X4_initialise_17 a2 x5 x3 x4 s) = (false, (x5, x3, x4, s)) from ((if_neg c0).trans ((if_pos c1).trans rfl))), hN⟩
    · by_cases c2 : 6 < x3
      · exact ⟨_, _, _, _, _, (show (B_X4_initialise_17 a2 x5 x3 x4 s) = (false, (x5, x3, x4, s)) from ((if_neg c0).trans ((if_neg c1).trans ((if_pos c2).trans rfl)))), hN⟩
      · by_cases c3 : (D_X4_lowestOf s ((D_X4_neededNow s (s 35 (x3 - 1).toNatClampNeg)) &&& (x4 ^^^ (-1)))) = (-1)
        · by_cases c4 : (D_X11_hasBit a2 (s 35 (x3 - 1).toNatClampNeg)) = 0
          · exact ⟨_, _, _, _, _, (show (B_X4_initialise_17 a2 x5 x3 x4 s) = (true, ((x5 + 1), (x3 + (-1)), x4, s)) from ((if_neg c0).trans ((if_neg c1).trans ((if_neg c2).trans ((if_pos c3).trans ((if_pos c4).trans rfl)))))), hN⟩
          · by_cases c5 : 6 ≤ (s 23 15)
            · exact ⟨_, _, _, _, _, (show (B_X4_initialise_17 a2 x5 x3 x4 s) = (true, ((x5 + 1), (x3 + (-1)), x4, s)) from ((if_neg c0).trans ((if_neg c1).trans ((if_neg c2).trans ((if_pos c3).trans ((if_neg c4).trans ((if_pos c5).trans rfl))))))), hN⟩
            · exact ⟨_, _, _, _, _, (show (B_X4_initialise_17 a2 x5 x3 x4 s) = (true, ((x5 + 1), (x3 + (-1)), x4, (up (up s 33 (s 23 15).toNatClampNeg (s 35 (x3 - 1).toNatClampNeg)) 23 15 ((s 23 15) + 1)))) from ((if_neg c0).trans ((if_neg c1).trans ((if_neg c2).trans ((if_pos c3).trans ((if_neg c4).trans ((if_neg c5).trans rfl))))))), (nn_c (nn_inc (rg_c (hN 23 15 rfl) c5 (m := 6) (n := 6) rfl).1 (lt_nle c5) (by decide)) (nn_0 rfl hN))⟩
        · by_cases c6 : 6 ≤ x3
          · by_cases c7 : (D_X11_hasBit a2 (s 35 (x3 - 1).toNatClampNeg)) = 0
            · exact ⟨_, _, _, _, _, (show (B_X4_initialise_17 a2 x5 x3 x4 s) = (true, ((x5 + 1), (x3 + (-1)), x4, s)) from ((if_neg c0).trans ((if_neg c1).trans ((if_neg c2).trans ((if_neg c3).trans ((if_pos c6).trans ((if_pos c7).trans rfl))))))), hN⟩
            · by_cases c8 : 6 ≤ (s 23 15)
              · exact ⟨_, _, _, _, _, (show (B_X4_initialise_17 a2 x5 x3 x4 s) = (true, ((x5 + 1), (x3 + (-1)), x4, s)) from ((if_neg c0).trans ((if_neg c1).trans ((if_neg c2).trans ((if_neg c3).trans ((if_pos c6).trans ((if_neg c7).trans ((if_pos c8).trans rfl)))))))), hN⟩
              · exact ⟨_, _, _, _, _, (show (B_X4_initialise_17 a2 x5 x3 x4 s) = (true, ((x5 + 1), (x3 + (-1)), x4, (up (up s 33 (s 23 15).toNatClampNeg (s 35 (x3 - 1).toNatClampNeg)) 23 15 ((s 23 15) + 1)))) from ((if_neg c0).trans ((if_neg c1).trans ((if_neg c2).trans ((if_neg c3).trans ((if_pos c6).trans ((if_neg c7).trans ((if_neg c8).trans rfl)))))))), (nn_c (nn_inc (rg_c (hN 23 15 rfl) c8 (m := 6) (n := 6) rfl).1 (lt_nle c8) (by decide)) (nn_0 rfl hN))⟩
          · exact ⟨_, _, _, _, _, (show (B_X4_initialise_17 a2 x5 x3 x4 s) = (true, ((x5 + 1), (x3 + 1), (x4 ||| (1 <<< ((D_X4_lowestOf s ((D_X4_neededNow s (s 35 (x3 - 1).toNatClampNeg)) &&& (x4 ^^^ (-1)))) &&& 31))), (up s 35 x3.toNatClampNeg (D_X4_lowestOf s ((D_X4_neededNow s (s 35 (x3 - 1).toNatClampNeg)) &&& (x4 ^^^ (-1))))))) from ((if_neg c0).trans ((if_neg c1).trans ((if_neg c2).trans ((if_neg c3).trans ((if_neg c6).trans rfl)))))), (nn_0 rfl hN)⟩
noncomputable def R_X4_initialise_143 (s : Sg) : Sg := s
theorem r_X4_initialise_143 (hP : WOK b w H0) {s : Sg} (hN : NN s) : Rx sc g_X4_initialise 2 ((143, [], [])) (wd b w wl H0 s, kn) none (wd b w wl H0 (R_X4_initialise_143 s), kn) := by
  show Rx sc g_X4_initialise 2 (143, [], []) (wd b w wl H0 s, kn) none (wd b w wl H0 (R_X4_initialise_143 s), kn)
  rw [(show (R_X4_initialise_143 s) = s from rfl)]
  exact rx_rv rfl
theorem nr_X4_initialise_143 {s : Sg} (hN : NN s) : NN ((R_X4_initialise_143 s)) := by
  rw [show (R_X4_initialise_143 s) = s from rfl]
  exact hN
noncomputable def D_X4_initialise (s : Sg) (a1 : Int32) (a2 : Int32) : Sg := (R_X4_initialise_143 ((itr (uc4 (B_X4_initialise_17 a2)) BIG (0, 1, (1 <<< (a1 &&& 31)), (up s 35 0 a1))).2.2.2))
theorem m_X4_initialise (hP : WOK b w H0) {s : Sg} {a1 : Int32} {a2 : Int32} (hN : NN s) : Rx sc g_X4_initialise 2 ((0, [(0, .ref (b + 23)), (1, .int a1), (2, .int a2)], [])) (wd b w wl H0 s, kn) none (wd b w wl H0 (D_X4_initialise s a1 a2), kn) := by
  show Rx sc g_X4_initialise 2 (0, [(0, .ref (b + 23)), (1, .int a1), (2, .int a2)], []) (wd b w wl H0 s, kn) none (wd b w wl H0 (D_X4_initialise s a1 a2), kn)
  refine rx_k 1 (1, [(0, .ref (b + 23)), (1, .int a1), (2, .int a2)], [.ref (b + 23)]) (fun _ _ => rfl) ?_
  refine rx_getf rfl rfl (wg_23 hP) rfl ?_
  refine rx_k 2 (6, [(0, .ref (b + 23)), (1, .int a1), (2, .int a2)], [.int a1, .int 0, .ref (b + 35)]) (fun _ _ => rfl) ?_
  refine rx_ist rfl rfl (wg_35 hP) rfl (ar_at ⟨by decide, by decide⟩) (ws_35 hP ⟨by decide, by decide⟩) ?_
  refine rx_k 8 (17, [(5, .int 0), (4, .int (1 <<< (a1 &&& 31))), (3, .int 1), (0, .ref (b + 23)), (1, .int a1), (2, .int a2)], []) (fun _ _ => rfl) ?_
  refine rx_lo am_X4_initialise (lo := [(0, .ref (b + 23)), (2, .int a2), (3, .int 1), (4, .int (1 <<< (a1 &&& 31))), (5, .int 0)]) (List.forall_mem_cons.mpr ⟨List.mem_of_getElem? (i := 3) rfl, (List.forall_mem_cons.mpr ⟨List.mem_of_getElem? (i := 5) rfl, (List.forall_mem_cons.mpr ⟨List.mem_of_getElem? (i := 2) rfl, (List.forall_mem_cons.mpr ⟨List.mem_of_getElem? (i := 1) rfl, (List.forall_mem_cons.mpr ⟨List.mem_of_getElem? (i := 0) rfl, (fun _ h => absurd h List.not_mem_nil)⟩)⟩)⟩)⟩)⟩) rfl ?_
  refine rx_loop4s (B := B_X4_initialise_17 a2) (fr := (fr_X4_initialise_17 b w a2)) (E := (fe_X4_initialise_17 b w a2)) (I := fun z5 z3 z4 zs => NN zs) (fun z5 z3 z4 zs oo hh9 hI9 hv9 hc9 he9 => b_X4_initialise_17 hP oo hh9 hI9 hv9 hc9 he9) (fun z5 z3 z4 zs hz => nb_X4_initialise_17 hz) BIG 0 1 (1 <<< (a1 &&& 31)) (up s 35 0 a1) _ _ (nn_0 rfl hN) (by decide : (0 : Int) ≤ (0 : Int32).toInt) (le_enough (by decide : (0 : Int) ≤ (0 : Int32).toInt)) ?_
  rw [(show (D_X4_initialise s a1 a2) = (R_X4_initialise_143 ((itr (uc4 (B_X4_initialise_17 a2)) BIG (0, 1, (1 <<< (a1 &&& 31)), (up s 35 0 a1))).2.2.2)) from rfl)]
  exact r_X4_initialise_143 hP (itr_inv4 (B := B_X4_initialise_17 a2) (I := fun z5 z3 z4 zs => NN zs) (fun z5 z3 z4 zs hz => nb_X4_initialise_17 hz) BIG 0 1 (1 <<< (a1 &&& 31)) (up s 35 0 a1) (nn_0 rfl hN))
theorem rc_X4_initialise (hP : WOK b w H0) {s : Sg} {a1 : Int32} {a2 : Int32} (hN : NN s) : Rc sc 3 69 [.ref (b + 23), .int a1, .int a2] (wd b w wl H0 s, kn) none (wd b w wl H0 (D_X4_initialise s a1 a2), kn) := rx_mc (m_X4_initialise hP hN) rfl rfl (Nat.ble_eq_true_of_le (Nat.le_refl _)) (Nat.ble_eq_true_of_le (Nat.le_refl _))
theorem nn_X4_initialise {s : Sg} {a1 : Int32} {a2 : Int32} (hN : NN s) : NN (D_X4_initialise s a1 a2) := by
  rw [show (D_X4_initialise s a1 a2) = (R_X4_initialise_143 ((itr (uc4 (B_X4_initialise_17 a2)) BIG (0, 1, (1 <<< (a1 &&& 31)), (up s 35 0 a1))).2.2.2)) from rfl]
  exact (nr_X4_initialise_143 (itr_inv4 (B := B_X4_initialise_17 a2) (I := fun z5 z3 z4 zs => NN zs) (fun z5 z3 z4 zs hz => nb_X4_initialise_17 hz) BIG 0 1 (1 <<< (a1 &&& 31)) (up s 35 0 a1) (nn_0 rfl hN)))
theorem fwb_X4_initialise_17 {a2 : Int32} {x5 : Int32} {x3 : Int32} {x4 : Int32} {s : Sg} {k j : Nat} (h23f15 : k ≠ 23 ∨ j ≠ 15) (h33 : k ≠ 33) (h35 : k ≠ 35) : ∃ (f : Bool) (t5 : Int32) (t3 : Int32) (t4 : Int32) (ts : Sg), (B_X4_initialise_17 a2 x5 x3 x4 s) = (f, (t5, t3, t4, ts)) ∧ ts k j = s k j := by
  by_cases c0 : 12 ≤ x5
  · exact ⟨_, _, _, _, _, (show (B_X4_initialise_17 a2 x5 x3 x4 s) = (false, (x5, x3, x4, s)) from ((if_pos c0).trans rfl)), rfl⟩
  · by_cases c1 : x3 ≤ 0
    · exact ⟨_, _, _, _, _, (show (B_X4_initialise_17 a2 x5 x3 x4 s) = (false, (x5, x3, x4, s)) from ((if_neg c0).trans ((if_pos c1).trans rfl))), rfl⟩
    · by_cases c2 : 6 < x3
      · exact ⟨_, _, _, _, _, (show (B_X4_initialise_17 a2 x5 x3 x4 s) = (false, (x5, x3, x4, s)) from ((if_neg c0).trans ((if_neg c1).trans ((if_pos c2).trans rfl)))), rfl⟩
      · by_cases c3 : (D_X4_lowestOf s ((D_X4_neededNow s (s 35 (x3 - 1).toNatClampNeg)) &&& (x4 ^^^ (-1)))) = (-1)
        · by_cases c4 : (D_X11_hasBit a2 (s 35 (x3 - 1).toNatClampNeg)) = 0
          · exact ⟨_, _, _, _, _, (show (B_X4_initialise_17 a2 x5 x3 x4 s) = (true, ((x5 + 1), (x3 + (-1)), x4, s)) from ((if_neg c0).trans ((if_neg c1).trans ((if_neg c2).trans ((if_pos c3).trans ((if_pos c4).trans rfl)))))), rfl⟩
          · by_cases c5 : 6 ≤ (s 23 15)
            · exact ⟨_, _, _, _, _, (show (B_X4_initialise_17 a2 x5 x3 x4 s) = (true, ((x5 + 1), (x3 + (-1)), x4, s)) from ((if_neg c0).trans ((if_neg c1).trans ((if_neg c2).trans ((if_pos c3).trans ((if_neg c4).trans ((if_pos c5).trans rfl))))))), rfl⟩
            · exact ⟨_, _, _, _, _, (show (B_X4_initialise_17 a2 x5 x3 x4 s) = (true, ((x5 + 1), (x3 + (-1)), x4, (up (up s 33 (s 23 15).toNatClampNeg (s 35 (x3 - 1).toNatClampNeg)) 23 15 ((s 23 15) + 1)))) from ((if_neg c0).trans ((if_neg c1).trans ((if_neg c2).trans ((if_pos c3).trans ((if_neg c4).trans ((if_neg c5).trans rfl))))))), ((up_f h23f15).trans ((up_a h33).trans rfl))⟩
        · by_cases c6 : 6 ≤ x3
          · by_cases c7 : (D_X11_hasBit a2 (s 35 (x3 - 1).toNatClampNeg)) = 0
            · exact ⟨_, _, _, _, _, (show (B_X4_initialise_17 a2 x5 x3 x4 s) = (true, ((x5 + 1), (x3 + (-1)), x4, s)) from ((if_neg c0).trans ((if_neg c1).trans ((if_neg c2).trans ((if_neg c3).trans ((if_pos c6).trans ((if_pos c7).trans rfl))))))), rfl⟩
            · by_cases c8 : 6 ≤ (s 23 15)
              · exact ⟨_, _, _, _, _, (show (B_X4_initialise_17 a2 x5 x3 x4 s) = (true, ((x5 + 1), (x3 + (-1)), x4, s)) from ((if_neg c0).trans ((if_neg c1).trans ((if_neg c2).trans ((if_neg c3).trans ((if_pos c6).trans ((if_neg c7).trans ((if_pos c8).trans rfl)))))))), rfl⟩
              · exact ⟨_, _, _, _, _, (show (B_X4_initialise_17 a2 x5 x3 x4 s) = (true, ((x5 + 1), (x3 + (-1)), x4, (up (up s 33 (s 23 15).toNatClampNeg (s 35 (x3 - 1).toNatClampNeg)) 23 15 ((s 23 15) + 1)))) from ((if_neg c0).trans ((if_neg c1).trans ((if_neg c2).trans ((if_neg c3).trans ((if_pos c6).trans ((if_neg c7).trans ((if_neg c8).trans rfl)))))))), ((up_f h23f15).trans ((up_a h33).trans rfl))⟩
          · exact ⟨_, _, _, _, _, (show (B_X4_initialise_17 a2 x5 x3 x4 s) = (true, ((x5 + 1), (x3 + 1), (x4 ||| (1 <<< ((D_X4_lowestOf s ((D_X4_neededNow s (s 35 (x3 - 1).toNatClampNeg)) &&& (x4 ^^^ (-1)))) &&& 31))), (up s 35 x3.toNatClampNeg (D_X4_lowestOf s ((D_X4_neededNow s (s 35 (x3 - 1).toNatClampNeg)) &&& (x4 ^^^ (-1))))))) from ((if_neg c0).trans ((if_neg c1).trans ((if_neg c2).trans ((if_neg c3).trans ((if_neg c6).trans rfl)))))), ((up_a h35).trans rfl)⟩
theorem fwr_X4_initialise_143 {s : Sg} {k j : Nat} (h23f15 : k ≠ 23 ∨ j ≠ 15) (h33 : k ≠ 33) (h35 : k ≠ 35) : (R_X4_initialise_143 s) k j = s k j := by
  rw [show (R_X4_initialise_143 s) = s from rfl]
  first | done | exact rfl
theorem fw_X4_initialise {s : Sg} {a1 : Int32} {a2 : Int32} {k j : Nat} (h23f15 : k ≠ 23 ∨ j ≠ 15) (h33 : k ≠ 33) (h35 : k ≠ 35) : (D_X4_initialise s a1 a2) k j = s k j := by
  rw [show (D_X4_initialise s a1 a2) = (R_X4_initialise_143 ((itr (uc4 (B_X4_initialise_17 a2)) BIG (0, 1, (1 <<< (a1 &&& 31)), (up s 35 0 a1))).2.2.2)) from rfl]
  first | done | exact ((fwr_X4_initialise_143 h23f15 h33 h35).trans ((itr_inv4 (B := B_X4_initialise_17 a2) (I := fun z5 z3 z4 zs => zs k j = (up s 35 0 a1) k j) (fun z5 z3 z4 zs hz => exq4 (fwb_X4_initialise_17 h23f15 h33 h35) hz) BIG 0 1 (1 <<< (a1 &&& 31)) (up s 35 0 a1) rfl).trans ((up_a h35).trans rfl)))
-- LinkHarbour$LibraryTable.openOne
def fr_X4_openOne_32 (b w : Nat) (a1 : Int32) (a2 : Int32) (a3 : Int32) (x5 : Int32) (x4 : Int32) : EF := (32, [(0, .ref (b + 23)), (1, .int a1), (2, .int a2), (3, .int a3), (4, .int x4), (5, .int x5)], [])
def fe_X4_openOne_32 (b w : Nat) (a1 : Int32) (a2 : Int32) (a3 : Int32) (x5 : Int32) (x4 : Int32) : EF := (90, [(0, .ref (b + 23)), (1, .int a1), (2, .int a2), (3, .int a3), (4, .int x4)], [])
noncomputable def B_X4_openOne_32 (a1 : Int32) (a2 : Int32) (a3 : Int32) (x5 : Int32) (x4 : Int32) (s : Sg) : Bool × (Int32 × Int32 × Sg) := (if a3 ≤ x5 then (false, (x5, x4, s)) else (if 6 ≤ x5 then (false, (x5, x4, s)) else (if (D_X4_isLoaded s (s 34 x5.toNatClampNeg)) = 0 then (true, ((x5 + 1), (x4 ||| (1 <<< (((D_X4_load s (s 34 x5.toNatClampNeg)) 34 x5.toNatClampNeg) &&& 31))), (D_X4_load s (s 34 x5.toNatClampNeg)))) else (true, ((x5 + 1), x4, s)))))
theorem b_X4_openOne_32 (hP : WOK b w H0) {s : Sg} {a1 : Int32} {a2 : Int32} {a3 : Int32} {x5 : Int32} {x4 : Int32} (h1 : rg a1 6) (z2 : bz a2 = true) (o : Option Value) (h' : EH) (hN : NN s) (hv : 0 ≤ x5.toInt) (hc : ∀ (t5 : Int32) (t4 : Int32) (ts : Sg), (B_X4_openOne_32 a1 a2 a3 x5 x4 s) = (true, (t5, t4, ts)) → x5.toInt < 2147483647 → t5 = x5 + 1 → Rx sc g_X4_openOne 4 (fr_X4_openOne_32 b w a1 a2 a3 t5 t4) (wd b w wl H0 ts, kn) o h') (he : ∀ (t5 : Int32) (t4 : Int32) (ts : Sg), (B_X4_openOne_32 a1 a2 a3 x5 x4 s) = (false, (t5, t4, ts)) → Rx sc g_X4_openOne 4 (fe_X4_openOne_32 b w a1 a2 a3 t5 t4) (wd b w wl H0 ts, kn) o h') : Rx sc g_X4_openOne 4 (fr_X4_openOne_32 b w a1 a2 a3 x5 x4) (wd b w wl H0 s, kn) o h' := by
  show Rx sc g_X4_openOne 4 (32, [(0, .ref (b + 23)), (1, .int a1), (2, .int a2), (3, .int a3), (4, .int x4), (5, .int x5)], []) (wd b w wl H0 s, kn) o h'
  refine rx_k 2 (35, [(0, .ref (b + 23)), (1, .int a1), (2, .int a2), (3, .int a3), (4, .int x4), (5, .int x5)], [.int a3, .int x5]) (fun _ _ => rfl) ?_
  by_cases c0 : a3 ≤ x5
  · refine rx_icT rfl (bt c0) ?_
    exact rx_lo am_X4_openOne (lo := [(0, .ref (b + 23)), (1, .int a1), (2, .int a2), (3, .int a3), (4, .int x4)]) (List.forall_mem_cons.mpr ⟨List.mem_of_getElem? (i := 0) rfl, (List.forall_mem_cons.mpr ⟨List.mem_of_getElem? (i := 1) rfl, (List.forall_mem_cons.mpr ⟨List.mem_of_getElem? (i := 2) rfl, (List.forall_mem_cons.mpr ⟨List.mem_of_getElem? (i := 3) rfl, (List.forall_mem_cons.mpr ⟨List.mem_of_getElem? (i := 4) rfl, (fun _ h => absurd h List.not_mem_nil)⟩)⟩)⟩)⟩)⟩) rfl (he _ _ _ (show (B_X4_openOne_32 a1 a2 a3 x5 x4 s) = (false, (x5, x4, s)) from ((if_pos c0).trans rfl)))
  · refine rx_icF rfl (bf c0) rfl ?_
    refine rx_k 2 (42, [(0, .ref (b + 23)), (1, .int a1), (2, .int a2), (3, .int a3), (4, .int x4), (5, .int x5)], [.int 6, .int x5]) (fun _ _ => rfl) ?_
    by_cases c1 : 6 ≤ x5
    · refine rx_icT rfl (bt c1) ?_
      exact rx_lo am_X4_openOne (lo := [(0, .ref (b + 23)), (1, .int a1), (2, .int a2), (3, .int a3), (4, .int x4)]) (List.forall_mem_cons.mpr ⟨List.mem_of_getElem? (i := 0) rfl, (List.forall_mem_cons.mpr ⟨List.mem_of_getElem? (i := 1) rfl, (List.forall_mem_cons.mpr ⟨List.mem_of_getElem? (i := 2) rfl, (List.forall_mem_cons.mpr ⟨List.mem_of_getElem? (i := 3) rfl, (List.forall_mem_cons.mpr ⟨List.mem_of_getElem? (i := 4) rfl, (fun _ h => absurd h List.not_mem_nil)⟩)⟩)⟩)⟩)⟩) rfl (he _ _ _ (show (B_X4_openOne_32 a1 a2 a3 x5 x4 s) = (false, (x5, x4, s)) from ((if_neg c0).trans ((if_pos c1).trans rfl))))
    · refine rx_icF rfl (bf c1) rfl ?_
      refine rx_k 2 (47, [(0, .ref (b + 23)), (1, .int a1), (2, .int a2), (3, .int a3), (4, .int x4), (5, .int x5)], [.ref (b + 23), .ref (b + 23)]) (fun _ _ => rfl) ?_
      refine rx_getf rfl rfl (wg_23 hP) rfl ?_
      refine rx_k 1 (52, [(0, .ref (b + 23)), (1, .int a1), (2, .int a2), (3, .int a3), (4, .int x4), (5, .int x5)], [.int x5, .ref (b + 34), .ref (b + 23)]) (fun _ _ => rfl) ?_
      refine rx_ild rfl rfl (wg_34 hP) (ar_at (rg_c hv c1 (m := 6) (n := 6) rfl)) ?_
      refine rx_inv rfl rfl (rc_X4_isLoaded hP) rfl rfl rfl (q_recv (wg_23 hP)) rfl rfl ?_
      by_cases c2 : (D_X4_isLoaded s (s 34 x5.toNatClampNeg)) = 0
      · refine rx_ifF rfl (nf c2) rfl ?_
        refine rx_k 2 (61, [(0, .ref (b + 23)), (1, .int a1), (2, .int a2), (3, .int a3), (4, .int x4), (5, .int x5)], [.ref (b + 23), .ref (b + 23)]) (fun _ _ => rfl) ?_
        refine rx_getf rfl rfl (wg_23 hP) rfl ?_
        refine rx_k 1 (66, [(0, .ref (b + 23)), (1, .int a1), (2, .int a2), (3, .int a3), (4, .int x4), (5, .int x5)], [.int x5, .ref (b + 34), .ref (b + 23)]) (fun _ _ => rfl) ?_
        refine rx_ild rfl rfl (wg_34 hP) (ar_at (rg_c hv c1 (m := 6) (n := 6) rfl)) ?_
        refine rx_inv rfl rfl (rc_X4_load hP hN) rfl rfl rfl (q_recv (wg_23 hP)) rfl rfl ?_
        refine rx_k 3 (74, [(0, .ref (b + 23)), (1, .int a1), (2, .int a2), (3, .int a3), (4, .int x4), (5, .int x5)], [.ref (b + 23), .int 1, .int x4]) (fun _ _ => rfl) ?_
        refine rx_getf rfl rfl (wg_23 hP) rfl ?_
        refine rx_k 1 (79, [(0, .ref (b + 23)), (1, .int a1), (2, .int a2), (3, .int a3), (4, .int x4), (5, .int x5)], [.int x5, .ref (b + 34), .int 1, .int x4]) (fun _ _ => rfl) ?_
        refine rx_ild rfl rfl (wg_34 hP) (ar_at (rg_c hv c1 (m := 6) (n := 6) rfl)) ?_
        refine rx_k 5 (32, [(5, .int (x5 + 1)), (4, .int (x4 ||| (1 <<< (((D_X4_load s (s 34 x5.toNatClampNeg)) 34 x5.toNatClampNeg) &&& 31)))), (0, .ref (b + 23)), (1, .int a1), (2, .int a2), (3, .int a3)], []) (fun _ _ => rfl) ?_
        refine rx_lo am_X4_openOne (lo := [(0, .ref (b + 23)), (1, .int a1), (2, .int a2), (3, .int a3), (4, .int (x4 ||| (1 <<< (((D_X4_load s (s 34 x5.toNatClampNeg)) 34 x5.toNatClampNeg) &&& 31)))), (5, .int (x5 + 1))]) (List.forall_mem_cons.mpr ⟨List.mem_of_getElem? (i := 2) rfl, (List.forall_mem_cons.mpr ⟨List.mem_of_getElem? (i := 3) rfl, (List.forall_mem_cons.mpr ⟨List.mem_of_getElem? (i := 4) rfl, (List.forall_mem_cons.mpr ⟨List.mem_of_getElem? (i := 5) rfl, (List.forall_mem_cons.mpr ⟨List.mem_of_getElem? (i := 1) rfl, (List.forall_mem_cons.mpr ⟨List.mem_of_getElem? (i := 0) rfl, (fun _ h => absurd h List.not_mem_nil)⟩)⟩)⟩)⟩)⟩)⟩) rfl (hc _ _ _ (show (B_X4_openOne_32 a1 a2 a3 x5 x4 s) = (true, ((x5 + 1), (x4 ||| (1 <<< (((D_X4_load s (s 34 x5.toNatClampNeg)) 34 x5.toNatClampNeg) &&& 31))), (D_X4_load s (s 34 x5.toNatClampNeg)))) from ((if_neg c0).trans ((if_neg c1).trans ((if_pos c2).trans rfl)))) (lt_nle c0) rfl)
      · refine rx_ifT rfl (nt c2) ?_
        refine rx_k 2 (32, [(5, .int (x5 + 1)), (0, .ref (b + 23)), (1, .int a1), (2, .int a2), (3, .int a3), (4, .int x4)], []) (fun _ _ => rfl) ?_
        refine rx_lo am_X4_openOne (lo := [(0, .ref (b + 23)), (1, .int a1), (2, .int a2), (3, .int a3), (4, .int x4), (5, .int (x5 + 1))]) (List.forall_mem_cons.mpr ⟨List.mem_of_getElem? (i := 1) rfl, (List.forall_mem_cons.mpr ⟨List.mem_of_getElem? (i := 2) rfl, (List.forall_mem_cons.mpr ⟨List.mem_of_getElem? (i := 3) rfl, (List.forall_mem_cons.mpr ⟨List.mem_of_getElem? (i := 4) rfl, (List.forall_mem_cons.mpr ⟨List.mem_of_getElem? (i := 5) rfl, (List.forall_mem_cons.mpr ⟨List.mem_of_getElem? (i := 0) rfl, (fun _ h => absurd h List.not_mem_nil)⟩)⟩)⟩)⟩)⟩)⟩) rfl (hc _ _ _ (show (B_X4_openOne_32 a1 a2 a3 x5 x4 s) = (true, ((x5 + 1), x4, s)) from ((if_neg c0).trans ((if_neg c1).trans ((if_neg c2).trans rfl)))) (lt_nle c0) rfl)
theorem nb_X4_openOne_32 {a1 : Int32} {a2 : Int32} {a3 : Int32} {x5 : Int32} {x4 : Int32} {s : Sg} (hN : NN s) : ∃ (f : Bool) (t5 : Int32) (t4 : Int32) (ts : Sg), (B_X4_openOne_32 a1 a2 a3 x5 x4 s) = (f, (t5, t4, ts)) ∧ NN ts := by
  by_cases c0 : a3 ≤ x5
  · exact ⟨_, _, _, _, (show (B_X4_openOne_32 a1 a2 a3 x5 x4 s) = (false, (x5, x4, s)) from ((if_pos c0).trans rfl)), hN⟩
  · by_cases c1 : 6 ≤ x5
    · exact ⟨_, _, _, _, (show (B_X4_openOne_32 a1 a2 a3 x5 x4 s) = (false, (x5, x4, s)) from ((if_neg c0).trans ((if_pos c1).trans rfl))), hN⟩
    · by_cases c2 : (D_X4_isLoaded s (s 34 x5.toNatClampNeg)) = 0
      · exact ⟨_, _, _, _, (show (B_X4_openOne_32 a1 a2 a3 x5 x4 s) = (true, ((x5 + 1), (x4 ||| (1 <<< (((D_X4_load s (s 34 x5.toNatClampNeg)) 34 x5.toNatClampNeg) &&& 31))), (D_X4_load s (s 34 x5.toNatClampNeg)))) from ((if_neg c0).trans ((if_neg c1).trans ((if_pos c2).trans rfl)))), (nn_X4_load hN)⟩
      · exact ⟨_, _, _, _, (show (B_X4_openOne_32 a1 a2 a3 x5 x4 s) = (true, ((x5 + 1), x4, s)) from ((if_neg c0).trans ((if_neg c1).trans ((if_neg c2).trans rfl)))), hN⟩
def fr_X4_openOne_93 (b w : Nat) (a1 : Int32) (a2 : Int32) (a3 : Int32) (a4 : Int32) (x5 : Int32) : EF := (93, [(0, .ref (b + 23)), (1, .int a1), (2, .int a2), (3, .int a3), (4, .int a4), (5, .int x5)], [])
def fe_X4_openOne_93 (b w : Nat) (a1 : Int32) (a2 : Int32) (a3 : Int32) (a4 : Int32) (x5 : Int32) : EF := (127, [(0, .ref (b + 23)), (1, .int a1), (4, .int a4)], [])
noncomputable def B_X4_openOne_93 (a1 : Int32) (a2 : Int32) (a3 : Int32) (a4 : Int32) (x5 : Int32) (s : Sg) : Bool × (Int32 × Sg) := (if a2 = 0 then (false, (x5, s)) else (if a3 ≤ x5 then (false, (x5, s)) else (if 6 ≤ x5 then (false, (x5, s)) else (true, ((x5 + 1), (D_X4_makeGlobal s (s 34 x5.toNatClampNeg)))))))
theorem b_X4_openOne_93 (hP : WOK b w H0) {s : Sg} {a1 : Int32} {a2 : Int32} {a3 : Int32} {a4 : Int32} {x5 : Int32} (h1 : rg a1 6) (z2 : bz a2 = true) (o : Option Value) (h' : EH) (hN : NN s) (hv : 0 ≤ x5.toInt) (hc : ∀ (t5 : Int32) (ts : Sg), (B_X4_openOne_93 a1 a2 a3 a4 x5 s) = (true, (t5, ts)) → x5.toInt < 2147483647 → t5 = x5 + 1 → Rx sc g_X4_openOne 4 (fr_X4_openOne_93 b w a1 a2 a3 a4 t5) (wd b w wl H0 ts, kn) o h') (he : ∀ (t5 : Int32) (ts : Sg), (B_X4_openOne_93 a1 a2 a3 a4 x5 s) = (false, (t5, ts)) → Rx sc g_X4_openOne 4 (fe_X4_openOne_93 b w a1 a2 a3 a4 t5) (wd b w wl H0 ts, kn) o h') : Rx sc g_X4_openOne 4 (fr_X4_openOne_93 b w a1 a2 a3 a4 x5) (wd b w wl H0 s, kn) o h' := by
  show Rx sc g_X4_openOne 4 (93, [(0, .ref (b + 23)), (1, .int a1), (2, .int a2), (3, .int a3), (4, .int a4), (5, .int x5)], []) (wd b w wl H0 s, kn) o h'
  refine rx_k 1 (94, [(0, .ref (b + 23)), (1, .int a1), (2, .int a2), (3, .int a3), (4, .int a4), (5, .int x5)], [.int a2]) (fun _ _ => rfl) ?_
  by_cases c0 : a2 = 0
  · refine rx_ifT rfl (bt c0) ?_
    exact rx_lo am_X4_openOne (lo := [(0, .ref (b + 23)), (1, .int a1), (4, .int a4)]) (List.forall_mem_cons.mpr ⟨List.mem_of_getElem? (i := 0) rfl, (List.forall_mem_cons.mpr ⟨List.mem_of_getElem? (i := 1) rfl, (List.forall_mem_cons.mpr ⟨List.mem_of_getElem? (i := 4) rfl, (fun _ h => absurd h List.not_mem_nil)⟩)⟩)⟩) rfl (he _ _ (show (B_X4_openOne_93 a1 a2 a3 a4 x5 s) = (false, (x5, s)) from ((if_pos c0).trans rfl)))
  · refine rx_ifF rfl (bf c0) rfl ?_
    refine rx_k 2 (100, [(0, .ref (b + 23)), (1, .int a1), (2, .int a2), (3, .int a3), (4, .int a4), (5, .int x5)], [.int a3, .int x5]) (fun _ _ => rfl) ?_
    by_cases c1 : a3 ≤ x5
    · refine rx_icT rfl (bt c1) ?_
      exact rx_lo am_X4_openOne (lo := [(0, .ref (b + 23)), (1, .int a1), (4, .int a4)]) (List.forall_mem_cons.mpr ⟨List.mem_of_getElem? (i := 0) rfl, (List.forall_mem_cons.mpr ⟨List.mem_of_getElem? (i := 1) rfl, (List.forall_mem_cons.mpr ⟨List.mem_of_getElem? (i := 4) rfl, (fun _ h => absurd h List.not_mem_nil)⟩)⟩)⟩) rfl (he _ _ (show (B_X4_openOne_93 a1 a2 a3 a4 x5 s) = (false, (x5, s)) from ((if_neg c0).trans ((if_pos c1).trans rfl))))
    · refine rx_icF rfl (bf c1) rfl ?_
      refine rx_k 2 (107, [(0, .ref (b + 23)), (1, .int a1), (2, .int a2), (3, .int a3), (4, .int a4), (5, .int x5)], [.int 6, .int x5]) (fun _ _ => rfl) ?_
      by_cases c2 : 6 ≤ x5
      · refine rx_icT rfl (bt c2) ?_
        exact rx_lo am_X4_openOne (lo := [(0, .ref (b + 23)), (1, .int a1), (4, .int a4)]) (List.forall_mem_cons.mpr ⟨List.mem_of_getElem? (i := 0) rfl, (List.forall_mem_cons.mpr ⟨List.mem_of_getElem? (i := 1) rfl, (List.forall_mem_cons.mpr ⟨List.mem_of_getElem? (i := 4) rfl, (fun _ h => absurd h List.not_mem_nil)⟩)⟩)⟩) rfl (he _ _ (show (B_X4_openOne_93 a1 a2 a3 a4 x5 s) = (false, (x5, s)) from ((if_neg c0).trans ((if_neg c1).trans ((if_pos c2).trans rfl)))))
      · refine rx_icF rfl (bf c2) rfl ?_
        refine rx_k 2 (112, [(0, .ref (b + 23)), (1, .int a1), (2, .int a2), (3, .int a3), (4, .int a4), (5, .int x5)], [.ref (b + 23), .ref (b + 23)]) (fun _ _ => rfl) ?_
        refine rx_getf rfl rfl (wg_23 hP) rfl ?_
        refine rx_k 1 (117, [(0, .ref (b + 23)), (1, .int a1), (2, .int a2), (3, .int a3), (4, .int a4), (5, .int x5)], [.int x5, .ref (b + 34), .ref (b + 23)]) (fun _ _ => rfl) ?_
        refine rx_ild rfl rfl (wg_34 hP) (ar_at (rg_c hv c2 (m := 6) (n := 6) rfl)) ?_
        refine rx_inv rfl rfl (rc_X4_makeGlobal hP hN) rfl rfl rfl (q_recv (wg_23 hP)) rfl rfl ?_
        refine rx_k 2 (93, [(5, .int (x5 + 1)), (0, .ref (b + 23)), (1, .int a1), (2, .int a2), (3, .int a3), (4, .int a4)], []) (fun _ _ => rfl) ?_
        refine rx_lo am_X4_openOne (lo := [(0, .ref (b + 23)), (1, .int a1), (2, .int a2), (3, .int a3), (4, .int a4), (5, .int (x5 + 1))]) (List.forall_mem_cons.mpr ⟨List.mem_of_getElem? (i := 1) rfl, (List.forall_mem_cons.mpr ⟨List.mem_of_getElem? (i := 2) rfl, (List.forall_mem_cons.mpr ⟨List.mem_of_getElem? (i := 3) rfl, (List.forall_mem_cons.mpr ⟨List.mem_of_getElem? (i := 4) rfl, (List.forall_mem_cons.mpr ⟨List.mem_of_getElem? (i := 5) rfl, (List.forall_mem_cons.mpr ⟨List.mem_of_getElem? (i := 0) rfl, (fun _ h => absurd h List.not_mem_nil)⟩)⟩)⟩)⟩)⟩)⟩) rfl (hc _ _ (show (B_X4_openOne_93 a1 a2 a3 a4 x5 s) = (true, ((x5 + 1), (D_X4_makeGlobal s (s 34 x5.toNatClampNeg)))) from ((if_neg c0).trans ((if_neg c1).trans ((if_neg c2).trans rfl)))) (lt_nle c1) rfl)
theorem nb_X4_openOne_93 {a1 : Int32} {a2 : Int32} {a3 : Int32} {a4 : Int32} {x5 : Int32} {s : Sg} (hN : NN s) : ∃ (f : Bool) (t5 : Int32) (ts : Sg), (B_X4_openOne_93 a1 a2 a3 a4 x5 s) = (f, (t5, ts)) ∧ NN ts := by
  by_cases c0 : a2 = 0
  · exact ⟨_, _, _, (show (B_X4_openOne_93 a1 a2 a3 a4 x5 s) = (false, (x5, s)) from ((if_pos c0).trans rfl)), hN⟩
  · by_cases c1 : a3 ≤ x5
    · exact ⟨_, _, _, (show (B_X4_openOne_93 a1 a2 a3 a4 x5 s) = (false, (x5, s)) from ((if_neg c0).trans ((if_pos c1).trans rfl))), hN⟩
    · by_cases c2 : 6 ≤ x5
      · exact ⟨_, _, _, (show (B_X4_openOne_93 a1 a2 a3 a4 x5 s) = (false, (x5, s)) from ((if_neg c0).trans ((if_neg c1).trans ((if_pos c2).trans rfl)))), hN⟩
      · exact ⟨_, _, _, (show (B_X4_openOne_93 a1 a2 a3 a4 x5 s) = (true, ((x5 + 1), (D_X4_makeGlobal s (s 34 x5.toNatClampNeg)))) from ((if_neg c0).trans ((if_neg c1).trans ((if_neg c2).trans rfl)))), (nn_X4_makeGlobal hN)⟩
noncomputable def R_X4_openOne_127 (s : Sg) (a1 : Int32) (a4 : Int32) : Int32 × Sg := ((D_J6_bitCount_0f7a4 a4), (D_X4_initialise s a1 a4))
theorem r_X4_openOne_127 (hP : WOK b w H0) {s : Sg} {a1 : Int32} {a4 : Int32} (h1 : rg a1 6) (hN : NN s) : Rx sc g_X4_openOne 4 ((127, [(0, .ref (b + 23)), (1, .int a1), (4, .int a4)], [])) (wd b w wl H0 s, kn) (some (.int (R_X4_openOne_127 s a1 a4).1)) (wd b w wl H0 (R_X4_openOne_127 s a1 a4).2, kn) := by
  show Rx sc g_X4_openOne 4 (127, [(0, .ref (b + 23)), (1, .int a1), (4, .int a4)], []) (wd b w wl H0 s, kn) (some (.int (R_X4_openOne_127 s a1 a4).1)) (wd b w wl H0 (R_X4_openOne_127 s a1 a4).2, kn)
  refine rx_k 3 (131, [(0, .ref (b + 23)), (1, .int a1), (4, .int a4)], [.int a4, .int a1, .ref (b + 23)]) (fun _ _ => rfl) ?_
  refine rx_inv rfl rfl (rc_X4_initialise hP hN) rfl rfl rfl (q_recv (wg_23 hP)) rfl rfl ?_
  refine rx_k 1 (136, [(0, .ref (b + 23)), (1, .int a1), (4, .int a4)], [.int a4]) (fun _ _ => rfl) ?_
  refine rx_inv rfl rfl (rc_J6_bitCount_0f7a4) rfl rfl rfl rfl rfl rfl ?_
  rw [(show (R_X4_openOne_127 s a1 a4) = ((D_J6_bitCount_0f7a4 a4), (D_X4_initialise s a1 a4)) from rfl)]
  exact rx_ri rfl
theorem nr_X4_openOne_127 {s : Sg} {a1 : Int32} {a4 : Int32} (hN : NN s) : NN ((R_X4_openOne_127 s a1 a4).2) := by
  exact pair_of (P := fun zs => NN zs) (show (R_X4_openOne_127 s a1 a4) = ((D_J6_bitCount_0f7a4 a4), (D_X4_initialise s a1 a4)) from rfl) (nn_X4_initialise hN)
noncomputable def R_X4_openOne_90 (s : Sg) (a1 : Int32) (a2 : Int32) (a3 : Int32) (a4 : Int32) : Int32 × Sg := (R_X4_openOne_127 ((itr (uc2 (B_X4_openOne_93 a1 a2 a3 a4)) BIG (0, s)).2) a1 a4)
theorem r_X4_openOne_90 (hP : WOK b w H0) {s : Sg} {a1 : Int32} {a2 : Int32} {a3 : Int32} {a4 : Int32} (h1 : rg a1 6) (z2 : bz a2 = true) (hN : NN s) : Rx sc g_X4_openOne 4 ((90, [(0, .ref (b + 23)), (1, .int a1), (2, .int a2), (3, .int a3), (4, .int a4)], [])) (wd b w wl H0 s, kn) (some (.int (R_X4_openOne_90 s a1 a2 a3 a4).1)) (wd b w wl H0 (R_X4_openOne_90 s a1 a2 a3 a4).2, kn) := by
  show Rx sc g_X4_openOne 4 (90, [(0, .ref (b + 23)), (1, .int a1), (2, .int a2), (3, .int a3), (4, .int a4)], []) (wd b w wl H0 s, kn) (some (.int (R_X4_openOne_90 s a1 a2 a3 a4).1)) (wd b w wl H0 (R_X4_openOne_90 s a1 a2 a3 a4).2, kn)
  refine rx_k 2 (93, [(5, .int 0), (0, .ref (b + 23)), (1, .int a1), (2, .int a2), (3, .int a3), (4, .int a4)], []) (fun _ _ => rfl) ?_
  refine rx_lo am_X4_openOne (lo := [(0, .ref (b + 23)), (1, .int a1), (2, .int a2), (3, .int a3), (4, .int a4), (5, .int 0)]) (List.forall_mem_cons.mpr ⟨List.mem_of_getElem? (i := 1) rfl, (List.forall_mem_cons.mpr ⟨List.mem_of_getElem? (i := 2) rfl, (List.forall_mem_cons.mpr ⟨List.mem_of_getElem? (i := 3) rfl, (List.forall_mem_cons.mpr ⟨List.mem_of_getElem? (i := 4) rfl, (List.forall_mem_cons.mpr ⟨List.mem_of_getElem? (i := 5) rfl, (List.forall_mem_cons.mpr ⟨List.mem_of_getElem? (i := 0) rfl, (fun _ h => absurd h List.not_mem_nil)⟩)⟩)⟩)⟩)⟩)⟩) rfl ?_
  refine rx_loop2s (B := B_X4_openOne_93 a1 a2 a3 a4) (fr := (fr_X4_openOne_93 b w a1 a2 a3 a4)) (E := (fe_X4_openOne_93 b w a1 a2 a3 a4)) (I := fun z5 zs => NN zs) (fun z5 zs oo hh9 hI9 hv9 hc9 he9 => b_X4_openOne_93 hP h1 z2 oo hh9 hI9 hv9 hc9 he9) (fun z5 zs hz => nb_X4_openOne_93 hz) BIG 0 s _ _ hN (by decide : (0 : Int) ≤ (0 : Int32).toInt) (le_enough (by decide : (0 : Int) ≤ (0 : Int32).toInt)) ?_
  rw [(show (R_X4_openOne_90 s a1 a2 a3 a4) = (R_X4_openOne_127 ((itr (uc2 (B_X4_openOne_93 a1 a2 a3 a4)) BIG (0, s)).2) a1 a4) from rfl)]
  exact r_X4_openOne_127 hP h1 (itr_inv2 (B := B_X4_openOne_93 a1 a2 a3 a4) (I := fun z5 zs => NN zs) (fun z5 zs hz => nb_X4_openOne_93 hz) BIG 0 s hN)
theorem nr_X4_openOne_90 {s : Sg} {a1 : Int32} {a2 : Int32} {a3 : Int32} {a4 : Int32} (hN : NN s) : NN ((R_X4_openOne_90 s a1 a2 a3 a4).2) := by
  rw [show (R_X4_openOne_90 s a1 a2 a3 a4) = (R_X4_openOne_127 ((itr (uc2 (B_X4_openOne_93 a1 a2 a3 a4)) BIG (0, s)).2) a1 a4) from rfl]
  exact (nr_X4_openOne_127 (itr_inv2 (B := B_X4_openOne_93 a1 a2 a3 a4) (I := fun z5 zs => NN zs) (fun z5 zs hz => nb_X4_openOne_93 hz) BIG 0 s hN))
noncomputable def D_X4_openOne (s : Sg) (a1 : Int32) (a2 : Int32) : Int32 × Sg := (if (D_X4_has s a1) = 0 then (0, s) else (R_X4_openOne_90 ((itr (uc3 (B_X4_openOne_32 a1 a2 ((D_X4_fillRow (up s 29 a1.toNatClampNeg ((s 29 a1.toNatClampNeg) + 1)) a1).1))) BIG (0, 0, (D_X4_fillRow (up s 29 a1.toNatClampNeg ((s 29 a1.toNatClampNeg) + 1)) a1).2)).2.2) a1 a2 ((D_X4_fillRow (up s 29 a1.toNatClampNeg ((s 29 a1.toNatClampNeg) + 1)) a1).1) ((itr (uc3 (B_X4_openOne_32 a1 a2 ((D_X4_fillRow (up s 29 a1.toNatClampNeg ((s 29 a1.toNatClampNeg) + 1)) a1).1))) BIG (0, 0, (D_X4_fillRow (up s 29 a1.toNatClampNeg ((s 29 a1.toNatClampNeg) + 1)) a1).2)).2.1)))
theorem m_X4_openOne (hP : WOK b w H0) {s : Sg} {a1 : Int32} {a2 : Int32} (hN : NN s) (za2 : bz a2 = true) : Rx sc g_X4_openOne 4 ((0, [(0, .ref (b + 23)), (1, .int a1), (2, .int a2)], [])) (wd b w wl H0 s, kn) (some (.int (D_X4_openOne s a1 a2).1)) (wd b w wl H0 (D_X4_openOne s a1 a2).2, kn) := by
  show Rx sc g_X4_openOne 4 (0, [(0, .ref (b + 23)), (1, .int a1), (2, .int a2)], []) (wd b w wl H0 s, kn) (some (.int (D_X4_openOne s a1 a2).1)) (wd b w wl H0 (D_X4_openOne s a1 a2).2, kn)
  refine rx_k 2 (2, [(0, .ref (b + 23)), (1, .int a1), (2, .int a2)], [.int a1, .ref (b + 23)]) (fun _ _ => rfl) ?_
  refine rx_inv rfl rfl (rc_X4_has hP) rfl rfl rfl (q_recv (wg_23 hP)) rfl rfl ?_
  by_cases c0 : (D_X4_has s a1) = 0
  · refine rx_ifF rfl (nf c0) rfl ?_
    refine rx_k 1 (9, [(0, .ref (b + 23)), (1, .int a1), (2, .int a2)], [.int 0]) (fun _ _ => rfl) ?_
    rw [(show (D_X4_openOne s a1 a2) = (0, s) from ((if_pos c0).trans rfl))]
    exact rx_ri rfl
  · refine rx_ifT rfl (nt c0) ?_
    refine rx_k 1 (11, [(0, .ref (b + 23)), (1, .int a1), (2, .int a2)], [.ref (b + 23)]) (fun _ _ => rfl) ?_
    refine rx_getf rfl rfl (wg_23 hP) rfl ?_
    refine rx_k 2 (16, [(0, .ref (b + 23)), (1, .int a1), (2, .int a2)], [.int a1, .ref (b + 29), .int a1, .ref (b + 29)]) (fun _ _ => rfl) ?_
    refine rx_ild rfl rfl (wg_29 hP) (ar_at (rg_X4_has c0)) ?_
    refine rx_k 2 (19, [(0, .ref (b + 23)), (1, .int a1), (2, .int a2)], [.int ((s 29 a1.toNatClampNeg) + 1), .int a1, .ref (b + 29)]) (fun _ _ => rfl) ?_
    refine rx_ist rfl rfl (wg_29 hP) rfl (ar_at (rg_X4_has c0)) (ws_29 hP (rg_X4_has c0)) ?_
    refine rx_k 2 (22, [(0, .ref (b + 23)), (1, .int a1), (2, .int a2)], [.int a1, .ref (b + 23)]) (fun _ _ => rfl) ?_
    refine rx_inv rfl rfl (rc_X4_fillRow hP (nn_0 rfl hN)) rfl rfl rfl (q_recv (wg_23 hP)) rfl rfl ?_
    refine rx_k 5 (32, [(5, .int 0), (4, .int 0), (3, .int (D_X4_fillRow (up s 29 a1.toNatClampNeg ((s 29 a1.toNatClampNeg) + 1)) a1).1), (0, .ref (b + 23)), (1, .int a1), (2, .int a2)], []) (fun _ _ => rfl) ?_
    refine rx_lo am_X4_openOne (lo := [(0, .ref (b + 23)), (1, .int a1), (2, .int a2), (3, .int (D_X4_fillRow (up s 29 a1.toNatClampNeg ((s 29 a1.toNatClampNeg) + 1)) a1).1), (4, .int 0), (5, .int 0)]) (List.forall_mem_cons.mpr ⟨List.mem_of_getElem? (i := 3) rfl, (List.forall_mem_cons.mpr ⟨List.mem_of_getElem? (i := 4) rfl, (List.forall_mem_cons.mpr ⟨List.mem_of_getElem? (i := 5) rfl, (List.forall_mem_cons.mpr ⟨List.mem_of_getElem? (i := 2) rfl, (List.forall_mem_cons.mpr ⟨List.mem_of_getElem? (i := 1) rfl, (List.forall_mem_cons.mpr ⟨List.mem_of_getElem? (i := 0) rfl, (fun _ h => absurd h List.not_mem_nil)⟩)⟩)⟩)⟩)⟩)⟩) rfl ?_
    refine rx_loop3s (B := B_X4_openOne_32 a1 a2 ((D_X4_fillRow (up s 29 a1.toNatClampNeg ((s 29 a1.toNatClampNeg) + 1)) a1).1)) (fr := (fr_X4_openOne_32 b w a1 a2 ((D_X4_fillRow (up s 29 a1.toNatClampNeg ((s 29 a1.toNatClampNeg) + 1)) a1).1))) (E := (fe_X4_openOne_32 b w a1 a2 ((D_X4_fillRow (up s 29 a1.toNatClampNeg ((s 29 a1.toNatClampNeg) + 1)) a1).1))) (I := fun z5 z4 zs => NN zs) (fun z5 z4 zs oo hh9 hI9 hv9 hc9 he9 => b_X4_openOne_32 hP (rg_X4_has c0) za2 oo hh9 hI9 hv9 hc9 he9) (fun z5 z4 zs hz => nb_X4_openOne_32 hz) BIG 0 0 ((D_X4_fillRow (up s 29 a1.toNatClampNeg ((s 29 a1.toNatClampNeg) + 1)) a1).2) _ _ (nn_X4_fillRow (nn_0 rfl hN)) (by decide : (0 : Int) ≤ (0 : Int32).toInt) (le_enough (by decide : (0 : Int) ≤ (0 : Int32).toInt)) ?_
    rw [(show (D_X4_openOne s a1 a2) = (R_X4_openOne_90 ((itr (uc3 (B_X4_openOne_32 a1 a2 ((D_X4_fillRow (up s 29 a1.toNatClampNeg ((s 29 a1.toNatClampNeg) + 1)) a1).1))) BIG (0, 0, (D_X4_fillRow (up s 29 a1.toNatClampNeg ((s 29 a1.toNatClampNeg) + 1)) a1).2)).2.2) a1 a2 ((D_X4_fillRow (up s 29 a1.toNatClampNeg ((s 29 a1.toNatClampNeg) + 1)) a1).1) ((itr (uc3 (B_X4_openOne_32 a1 a2 ((D_X4_fillRow (up s 29 a1.toNatClampNeg ((s 29 a1.toNatClampNeg) + 1)) a1).1))) BIG (0, 0, (D_X4_fillRow (up s 29 a1.toNatClampNeg ((s 29 a1.toNatClampNeg) + 1)) a1).2)).2.1)) from ((if_neg c0).trans rfl))]
    exact r_X4_openOne_90 hP (rg_X4_has c0) za2 (itr_inv3 (B := B_X4_openOne_32 a1 a2 ((D_X4_fillRow (up s 29 a1.toNatClampNeg ((s 29 a1.toNatClampNeg) + 1)) a1).1)) (I := fun z5 z4 zs => NN zs) (fun z5 z4 zs hz => nb_X4_openOne_32 hz) BIG 0 0 ((D_X4_fillRow (up s 29 a1.toNatClampNeg ((s 29 a1.toNatClampNeg) + 1)) a1).2) (nn_X4_fillRow (nn_0 rfl hN)))
theorem rc_X4_openOne (hP : WOK b w H0) {s : Sg} {a1 : Int32} {a2 : Int32} (hN : NN s) (za2 : bz a2 = true) : Rc sc 5 66 [.ref (b + 23), .int a1, .int a2] (wd b w wl H0 s, kn) (some (.int (D_X4_openOne s a1 a2).1)) (wd b w wl H0 (D_X4_openOne s a1 a2).2, kn) := rx_mc (m_X4_openOne hP hN za2) rfl rfl (Nat.ble_eq_true_of_le (Nat.le_refl _)) (Nat.ble_eq_true_of_le (Nat.le_refl _))
theorem nn_X4_openOne {s : Sg} {a1 : Int32} {a2 : Int32} (hN : NN s) : NN (D_X4_openOne s a1 a2).2 := by
  by_cases c0 : (D_X4_has s a1) = 0
  · exact pair_of (P := fun zs => NN zs) (show (D_X4_openOne s a1 a2) = (0, s) from ((if_pos c0).trans rfl)) hN
  · rw [show (D_X4_openOne s a1 a2) = (R_X4_openOne_90 ((itr (uc3 (B_X4_openOne_32 a1 a2 ((D_X4_fillRow (up s 29 a1.toNatClampNeg ((s 29 a1.toNatClampNeg) + 1)) a1).1))) BIG (0, 0, (D_X4_fillRow (up s 29 a1.toNatClampNeg ((s 29 a1.toNatClampNeg) + 1)) a1).2)).2.2) a1 a2 ((D_X4_fillRow (up s 29 a1.toNatClampNeg ((s 29 a1.toNatClampNeg) + 1)) a1).1) ((itr (uc3 (B_X4_openOne_32 a1 a2 ((D_X4_fillRow (up s 29 a1.toNatClampNeg ((s 29 a1.toNatClampNeg) + 1)) a1).1))) BIG (0, 0, (D_X4_fillRow (up s 29 a1.toNatClampNeg ((s 29 a1.toNatClampNeg) + 1)) a1).2)).2.1)) from ((if_neg c0).trans rfl)]
    exact (nr_X4_openOne_90 (itr_inv3 (B := B_X4_openOne_32 a1 a2 ((D_X4_fillRow (up s 29 a1.toNatClampNeg ((s 29 a1.toNatClampNeg) + 1)) a1).1)) (I := fun z5 z4 zs => NN zs) (fun z5 z4 zs hz => nb_X4_openOne_32 hz) BIG 0 0 ((D_X4_fillRow (up s 29 a1.toNatClampNeg ((s 29 a1.toNatClampNeg) + 1)) a1).2) (nn_X4_fillRow (nn_0 rfl hN))))
theorem fwb_X4_openOne_32 {a1 : Int32} {a2 : Int32} {a3 : Int32} {x5 : Int32} {x4 : Int32} {s : Sg} {k j : Nat} (h23f12 : k ≠ 23 ∨ j ≠ 12) (h23f14 : k ≠ 23 ∨ j ≠ 14) (h23f15 : k ≠ 23 ∨ j ≠ 15) (h29 : k ≠ 29) (h30 : k ≠ 30) (h32 : k ≠ 32) (h33 : k ≠ 33) (h34 : k ≠ 34) (h35 : k ≠ 35) : ∃ (f : Bool) (t5 : Int32) (t4 : Int32) (ts : Sg), (B_X4_openOne_32 a1 a2 a3 x5 x4 s) = (f, (t5, t4, ts)) ∧ ts k j = s k j := by
  by_cases c0 : a3 ≤ x5
  · exact ⟨_, _, _, _, (show (B_X4_openOne_32 a1 a2 a3 x5 x4 s) = (false, (x5, x4, s)) from ((if_pos c0).trans rfl)), rfl⟩
  · by_cases c1 : 6 ≤ x5
    · exact ⟨_, _, _, _, (show (B_X4_openOne_32 a1 a2 a3 x5 x4 s) = (false, (x5, x4, s)) from ((if_neg c0).trans ((if_pos c1).trans rfl))), rfl⟩
    · by_cases c2 : (D_X4_isLoaded s (s 34 x5.toNatClampNeg)) = 0
      · exact ⟨_, _, _, _, (show (B_X4_openOne_32 a1 a2 a3 x5 x4 s) = (true, ((x5 + 1), (x4 ||| (1 <<< (((D_X4_load s (s 34 x5.toNatClampNeg)) 34 x5.toNatClampNeg) &&& 31))), (D_X4_load s (s 34 x5.toNatClampNeg)))) from ((if_neg c0).trans ((if_neg c1).trans ((if_pos c2).trans rfl)))), ((fw_X4_load h30).trans rfl)⟩
      · exact ⟨_, _, _, _, (show (B_X4_openOne_32 a1 a2 a3 x5 x4 s) = (true, ((x5 + 1), x4, s)) from ((if_neg c0).trans ((if_neg c1).trans ((if_neg c2).trans rfl)))), rfl⟩
theorem fwb_X4_openOne_93 {a1 : Int32} {a2 : Int32} {a3 : Int32} {a4 : Int32} {x5 : Int32} {s : Sg} {k j : Nat} (h23f12 : k ≠ 23 ∨ j ≠ 12) (h23f14 : k ≠ 23 ∨ j ≠ 14) (h23f15 : k ≠ 23 ∨ j ≠ 15) (h29 : k ≠ 29) (h30 : k ≠ 30) (h32 : k ≠ 32) (h33 : k ≠ 33) (h34 : k ≠ 34) (h35 : k ≠ 35) : ∃ (f : Bool) (t5 : Int32) (ts : Sg), (B_X4_openOne_93 a1 a2 a3 a4 x5 s) = (f, (t5, ts)) ∧ ts k j = s k j := by
  by_cases c0 : a2 = 0
  · exact ⟨_, _, _, (show (B_X4_openOne_93 a1 a2 a3 a4 x5 s) = (false, (x5, s)) from ((if_pos c0).trans rfl)), rfl⟩
  · by_cases c1 : a3 ≤ x5
    · exact ⟨_, _, _, (show (B_X4_openOne_93 a1 a2 a3 a4 x5 s) = (false, (x5, s)) from ((if_neg c0).trans ((if_pos c1).trans rfl))), rfl⟩
    · by_cases c2 : 6 ≤ x5
      · exact ⟨_, _, _, (show (B_X4_openOne_93 a1 a2 a3 a4 x5 s) = (false, (x5, s)) from ((if_neg c0).trans ((if_neg c1).trans ((if_pos c2).trans rfl)))), rfl⟩
      · exact ⟨_, _, _, (show (B_X4_openOne_93 a1 a2 a3 a4 x5 s) = (true, ((x5 + 1), (D_X4_makeGlobal s (s 34 x5.toNatClampNeg)))) from ((if_neg c0).trans ((if_neg c1).trans ((if_neg c2).trans rfl)))), ((fw_X4_makeGlobal h23f14 h32).trans rfl)⟩
theorem fwr_X4_openOne_127 {s : Sg} {a1 : Int32} {a4 : Int32} {k j : Nat} (h23f12 : k ≠ 23 ∨ j ≠ 12) (h23f14 : k ≠ 23 ∨ j ≠ 14) (h23f15 : k ≠ 23 ∨ j ≠ 15) (h29 : k ≠ 29) (h30 : k ≠ 30) (h32 : k ≠ 32) (h33 : k ≠ 33) (h34 : k ≠ 34) (h35 : k ≠ 35) : (R_X4_openOne_127 s a1 a4).2 k j = s k j := by
  exact pair_of (P := fun zs => zs k j = s k j) (show (R_X4_openOne_127 s a1 a4) = ((D_J6_bitCount_0f7a4 a4), (D_X4_initialise s a1 a4)) from rfl) ((fw_X4_initialise h23f15 h33 h35).trans rfl)
theorem fwr_X4_openOne_90 {s : Sg} {a1 : Int32} {a2 : Int32} {a3 : Int32} {a4 : Int32} {k j : Nat} (h23f12 : k ≠ 23 ∨ j ≠ 12) (h23f14 : k ≠ 23 ∨ j ≠ 14) (h23f15 : k ≠ 23 ∨ j ≠ 15) (h29 : k ≠ 29) (h30 : k ≠ 30) (h32 : k ≠ 32) (h33 : k ≠ 33) (h34 : k ≠ 34) (h35 : k ≠ 35) : (R_X4_openOne_90 s a1 a2 a3 a4).2 k j = s k j := by
  rw [show (R_X4_openOne_90 s a1 a2 a3 a4) = (R_X4_openOne_127 ((itr (uc2 (B_X4_openOne_93 a1 a2 a3 a4)) BIG (0, s)).2) a1 a4) from rfl]
  first | done | exact ((fwr_X4_openOne_127 h23f12 h23f14 h23f15 h29 h30 h32 h33 h34 h35).trans ((itr_inv2 (B := B_X4_openOne_93 a1 a2 a3 a4) (I := fun z5 zs => zs k j = s k j) (fun z5 zs hz => exq2 (fwb_X4_openOne_93 h23f12 h23f14 h23f15 h29 h30 h32 h33 h34 h35) hz) BIG 0 s rfl).trans rfl))
theorem fw_X4_openOne {s : Sg} {a1 : Int32} {a2 : Int32} {k j : Nat} (h23f12 : k ≠ 23 ∨ j ≠ 12) (h23f14 : k ≠ 23 ∨ j ≠ 14) (h23f15 : k ≠ 23 ∨ j ≠ 15) (h29 : k ≠ 29) (h30 : k ≠ 30) (h32 : k ≠ 32) (h33 : k ≠ 33) (h34 : k ≠ 34) (h35 : k ≠ 35) : (D_X4_openOne s a1 a2).2 k j = s k j := by
  by_cases c0 : (D_X4_has s a1) = 0
  · exact pair_of (P := fun zs => zs k j = s k j) (show (D_X4_openOne s a1 a2) = (0, s) from ((if_pos c0).trans rfl)) rfl
  · rw [show (D_X4_openOne s a1 a2) = (R_X4_openOne_90 ((itr (uc3 (B_X4_openOne_32 a1 a2 ((D_X4_fillRow (up s 29 a1.toNatClampNeg ((s 29 a1.toNatClampNeg) + 1)) a1).1))) BIG (0, 0, (D_X4_fillRow (up s 29 a1.toNatClampNeg ((s 29 a1.toNatClampNeg) + 1)) a1).2)).2.2) a1 a2 ((D_X4_fillRow (up s 29 a1.toNatClampNeg ((s 29 a1.toNatClampNeg) + 1)) a1).1) ((itr (uc3 (B_X4_openOne_32 a1 a2 ((D_X4_fillRow (up s 29 a1.toNatClampNeg ((s 29 a1.toNatClampNeg) + 1)) a1).1))) BIG (0, 0, (D_X4_fillRow (up s 29 a1.toNatClampNeg ((s 29 a1.toNatClampNeg) + 1)) a1).2)).2.1)) from ((if_neg c0).trans rfl)]
    first | done | exact ((fwr_X4_openOne_90 h23f12 h23f14 h23f15 h29 h30 h32 h33 h34 h35).trans ((itr_inv3 (B := B_X4_openOne_32 a1 a2 ((D_X4_fillRow (up s 29 a1.toNatClampNeg ((s 29 a1.toNatClampNeg) + 1)) a1).1)) (I := fun z5 z4 zs => zs k j = ((D_X4_fillRow (up s 29 a1.toNatClampNeg ((s 29 a1.toNatClampNeg) + 1)) a1).2) k j) (fun z5 z4 zs hz => exq3 (fwb_X4_openOne_32 h23f12 h23f14 h23f15 h29 h30 h32 h33 h34 h35) hz) BIG 0 0 ((D_X4_fillRow (up s 29 a1.toNatClampNeg ((s 29 a1.toNatClampNeg) + 1)) a1).2) rfl).trans ((fw_X4_fillRow h23f12 h34).trans ((up_a h29).trans rfl))))
-- LinkHarbour$LibraryTable.leavingBy
def fr_X4_leavingBy_4 (b w : Nat) (a1 : Int32) (x3 : Int32) (x2 : Int32) : EF := (4, [(0, .ref (b + 23)), (1, .int a1), (2, .int x2), (3, .int x3)], [])
def fe_X4_leavingBy_4 (b w : Nat) (a1 : Int32) (x3 : Int32) (x2 : Int32) : EF := (52, [(0, .ref (b + 23)), (2, .int x2)], [])
noncomputable def B_X4_leavingBy_4 (a1 : Int32) (x3 : Int32) (x2 : Int32) (s : Sg) : Bool × (Int32 × Int32 × Sg) := (if 6 ≤ x3 then (false, (x3, x2, s)) else (if x3 = a1 then (if ((D_X4_opened s x3) - 1) ≤ 0 then (true, ((x3 + 1), x2, s)) else (true, ((x3 + 1), (x2 ||| ((D_X4_fillRow s x3).2 23 12)), (D_X4_fillRow s x3).2))) else (if ((D_X4_opened s x3) - 0) ≤ 0 then (true, ((x3 + 1), x2, s)) else (true, ((x3 + 1), (x2 ||| ((D_X4_fillRow s x3).2 23 12)), (D_X4_fillRow s x3).2)))))
theorem b_X4_leavingBy_4 (hP : WOK b w H0) {s : Sg} {a1 : Int32} {x3 : Int32} {x2 : Int32} (o : Option Value) (h' : EH) (hN : NN s) (hv : 0 ≤ x3.toInt) (hc : ∀ (t3 : Int32) (t2 : Int32) (ts : Sg), (B_X4_leavingBy_4 a1 x3 x2 s) = (true, (t3, t2, ts)) → x3.toInt < 2147483647 → t3 = x3 + 1 → Rx sc g_X4_leavingBy 4 (fr_X4_leavingBy_4 b w a1 t3 t2) (wd b w wl H0 ts, kn) o h') (he : ∀ (t3 : Int32) (t2 : Int32) (ts : Sg), (B_X4_leavingBy_4 a1 x3 x2 s) = (false, (t3, t2, ts)) → Rx sc g_X4_leavingBy 4 (fe_X4_leavingBy_4 b w a1 t3 t2) (wd b w wl H0 ts, kn) o h') : Rx sc g_X4_leavingBy 4 (fr_X4_leavingBy_4 b w a1 x3 x2) (wd b w wl H0 s, kn) o h' := by
  show Rx sc g_X4_leavingBy 4 (4, [(0, .ref (b + 23)), (1, .int a1), (2, .int x2), (3, .int x3)], []) (wd b w wl H0 s, kn) o h'
  refine rx_k 2 (7, [(0, .ref (b + 23)), (1, .int a1), (2, .int x2), (3, .int x3)], [.int 6, .int x3]) (fun _ _ => rfl) ?_
  by_cases c0 : 6 ≤ x3
  · refine rx_icT rfl (bt c0) ?_
    exact rx_lo am_X4_leavingBy (lo := [(0, .ref (b + 23)), (2, .int x2)]) (List.forall_mem_cons.mpr ⟨List.mem_of_getElem? (i := 0) rfl, (List.forall_mem_cons.mpr ⟨List.mem_of_getElem? (i := 2) rfl, (fun _ h => absurd h List.not_mem_nil)⟩)⟩) rfl (he _ _ _ (show (B_X4_leavingBy_4 a1 x3 x2 s) = (false, (x3, x2, s)) from ((if_pos c0).trans rfl)))
  · refine rx_icF rfl (bf c0) rfl ?_
    refine rx_k 2 (12, [(0, .ref (b + 23)), (1, .int a1), (2, .int x2), (3, .int x3)], [.int x3, .ref (b + 23)]) (fun _ _ => rfl) ?_
    refine rx_inv rfl rfl (rc_X4_opened hP) rfl rfl rfl (q_recv (wg_23 hP)) rfl rfl ?_
    refine rx_k 2 (17, [(0, .ref (b + 23)), (1, .int a1), (2, .int x2), (3, .int x3)], [.int a1, .int x3, .int (D_X4_opened s x3)]) (fun _ _ => rfl) ?_
    by_cases c1 : x3 = a1
    · refine rx_icF rfl (nf c1) rfl ?_
      refine rx_k 5 (30, [(4, .int ((D_X4_opened s x3) - 1)), (0, .ref (b + 23)), (1, .int a1), (2, .int x2), (3, .int x3)], [.int ((D_X4_opened s x3) - 1)]) (fun _ _ => rfl) ?_
      by_cases c2 : ((D_X4_opened s x3) - 1) ≤ 0
      · refine rx_ifT rfl (bt c2) ?_
        refine rx_k 2 (4, [(3, .int (x3 + 1)), (4, .int ((D_X4_opened s x3) - 1)), (0, .ref (b + 23)), (1, .int a1), (2, .int x2)], []) (fun _ _ => rfl) ?_
        refine rx_lo am_X4_leavingBy (lo := [(0, .ref (b + 23)), (1, .int a1), (2, .int x2), (3, .int (x3 + 1))]) (List.forall_mem_cons.mpr ⟨List.mem_of_getElem? (i := 2) rfl, (List.forall_mem_cons.mpr ⟨List.mem_of_getElem? (i := 3) rfl, (List.forall_mem_cons.mpr ⟨List.mem_of_getElem? (i := 4) rfl, (List.forall_mem_cons.mpr ⟨List.mem_of_getElem? (i := 0) rfl, (fun _ h => absurd h List.not_mem_nil)⟩)⟩)⟩)⟩) rfl (hc _ _ _ (show (B_X4_leavingBy_4 a1 x3 x2 s) = (true, ((x3 + 1), x2, s)) from ((if_neg c0).trans ((if_pos c1).trans ((if_pos c2).trans rfl)))) (lt_nle c0) rfl)
      · refine rx_ifF rfl (bf c2) rfl ?_
        refine rx_k 2 (35, [(4, .int ((D_X4_opened s x3) - 1)), (0, .ref (b + 23)), (1, .int a1), (2, .int x2), (3, .int x3)], [.int x3, .ref (b + 23)]) (fun _ _ => rfl) ?_
        refine rx_inv rfl rfl (rc_X4_fillRow hP hN) rfl rfl rfl (q_recv (wg_23 hP)) rfl rfl ?_
        refine rx_k 3 (41, [(4, .int ((D_X4_opened s x3) - 1)), (0, .ref (b + 23)), (1, .int a1), (2, .int x2), (3, .int x3)], [.ref (b + 23), .int x2]) (fun _ _ => rfl) ?_
        refine rx_getf rfl rfl (wg_23 hP) rfl ?_
        refine rx_k 4 (4, [(3, .int (x3 + 1)), (2, .int (x2 ||| ((D_X4_fillRow s x3).2 23 12))), (4, .int ((D_X4_opened s x3) - 1)), (0, .ref (b + 23)), (1, .int a1)], []) (fun _ _ => rfl) ?_
        refine rx_lo am_X4_leavingBy (lo := [(0, .ref (b + 23)), (1, .int a1), (2, .int (x2 ||| ((D_X4_fillRow s x3).2 23 12))), (3, .int (x3 + 1))]) (List.forall_mem_cons.mpr ⟨List.mem_of_getElem? (i := 3) rfl, (List.forall_mem_cons.mpr ⟨List.mem_of_getElem? (i := 4) rfl, (List.forall_mem_cons.mpr ⟨List.mem_of_getElem? (i := 1) rfl, (List.forall_mem_cons.mpr ⟨List.mem_of_getElem? (i := 0) rfl, (fun _ h => absurd h List.not_mem_nil)⟩)⟩)⟩)⟩) rfl (hc _ _ _ (show (B_X4_leavingBy_4 a1 x3 x2 s) = (true, ((x3 + 1), (x2 ||| ((D_X4_fillRow s x3).2 23 12)), (D_X4_fillRow s x3).2)) from ((if_neg c0).trans ((if_pos c1).trans ((if_neg c2).trans rfl)))) (lt_nle c0) rfl)
    · refine rx_icT rfl (nt c1) ?_
      refine rx_k 4 (30, [(4, .int ((D_X4_opened s x3) - 0)), (0, .ref (b + 23)), (1, .int a1), (2, .int x2), (3, .int x3)], [.int ((D_X4_opened s x3) - 0)]) (fun _ _ => rfl) ?_
      by_cases c3 : ((D_X4_opened s x3) - 0) ≤ 0
      · refine rx_ifT rfl (bt c3) ?_
        refine rx_k 2 (4, [(3, .int (x3 + 1)), (4, .int ((D_X4_opened s x3) - 0)), (0, .ref (b + 23)), (1, .int a1), (2, .int x2)], []) (fun _ _ => rfl) ?_
        refine rx_lo am_X4_leavingBy (lo := [(0, .ref (b + 23)), (1, .int a1), (2, .int x2), (3, .int (x3 + 1))]) (List.forall_mem_cons.mpr ⟨List.mem_of_getElem? (i := 2) rfl, (List.forall_mem_cons.mpr ⟨List.mem_of_getElem? (i := 3) rfl, (List.forall_mem_cons.mpr ⟨List.mem_of_getElem? (i := 4) rfl, (List.forall_mem_cons.mpr ⟨List.mem_of_getElem? (i := 0) rfl, (fun _ h => absurd h List.not_mem_nil)⟩)⟩)⟩)⟩) rfl (hc _ _ _ (show (B_X4_leavingBy_4 a1 x3 x2 s) = (true, ((x3 + 1), x2, s)) from ((if_neg c0).trans ((if_neg c1).trans ((if_pos c3).trans rfl)))) (lt_nle c0) rfl)
      · refine rx_ifF rfl (bf c3) rfl ?_
        refine rx_k 2 (35, [(4, .int ((D_X4_opened s x3) - 0)), (0, .ref (b + 23)), (1, .int a1), (2, .int x2), (3, .int x3)], [.int x3, .ref (b + 23)]) (fun _ _ => rfl) ?_
        refine rx_inv rfl rfl (rc_X4_fillRow hP hN) rfl rfl rfl (q_recv (wg_23 hP)) rfl rfl ?_
        refine rx_k 3 (41, [(4, .int ((D_X4_opened s x3) - 0)), (0, .ref (b + 23)), (1, .int a1), (2, .int x2), (3, .int x3)], [.ref (b + 23), .int x2]) (fun _ _ => rfl) ?_
        refine rx_getf rfl rfl (wg_23 hP) rfl ?_
        refine rx_k 4 (4, [(3, .int (x3 + 1)), (2, .int (x2 ||| ((D_X4_fillRow s x3).2 23 12))), (4, .int ((D_X4_opened s x3) - 0)), (0, .ref (b + 23)), (1, .int a1)], []) (fun _ _ => rfl) ?_
        refine rx_lo am_X4_leavingBy (lo := [(0, .ref (b + 23)), (1, .int a1), (2, .int (x2 ||| ((D_X4_fillRow s x3).2 23 12))), (3, .int (x3 + 1))]) (List.forall_mem_cons.mpr ⟨List.mem_of_getElem? (i := 3) rfl, (List.forall_mem_cons.mpr ⟨List.mem_of_getElem? (i := 4) rfl, (List.forall_mem_cons.mpr ⟨List.mem_of_getElem? (i := 1) rfl, (List.forall_mem_cons.mpr ⟨List.mem_of_getElem? (i := 0) rfl, (fun _ h => absurd h List.not_mem_nil)⟩)⟩)⟩)⟩) rfl (hc _ _ _ (show (B_X4_leavingBy_4 a1 x3 x2 s) = (true, ((x3 + 1), (x2 ||| ((D_X4_fillRow s x3).2 23 12)), (D_X4_fillRow s x3).2)) from ((if_neg c0).trans ((if_neg c1).trans ((if_neg c3).trans rfl)))) (lt_nle c0) rfl)
theorem nb_X4_leavingBy_4 {a1 : Int32} {x3 : Int32} {x2 : Int32} {s : Sg} (hN : NN s) : ∃ (f : Bool) (t3 : Int32) (t2 : Int32) (ts : Sg), (B_X4_leavingBy_4 a1 x3 x2 s) = (f, (t3, t2, ts)) ∧ NN ts := by
  by_cases c0 : 6 ≤ x3
  · exact ⟨_, _, _, _, (show (B_X4_leavingBy_4 a1 x3 x2 s) = (false, (x3, x2, s)) from ((if_pos c0).trans rfl)), hN⟩
  · by_cases c1 : x3 = a1
    · by_cases c2 : ((D_X4_opened s x3) - 1) ≤ 0
      · exact ⟨_, _, _, _, (show (B_X4_leavingBy_4 a1 x3 x2 s) = (true, ((x3 + 1), x2, s)) from ((if_neg c0).trans ((if_pos c1).trans ((if_pos c2).trans rfl)))), hN⟩
      · exact ⟨_, _, _, _, (show (B_X4_leavingBy_4 a1 x3 x2 s) = (true, ((x3 + 1), (x2 ||| ((D_X4_fillRow s x3).2 23 12)), (D_X4_fillRow s x3).2)) from ((if_neg c0).trans ((if_pos c1).trans ((if_neg c2).trans rfl)))), (nn_X4_fillRow hN)⟩
    · by_cases c3 : ((D_X4_opened s x3) - 0) ≤ 0
      · exact ⟨_, _, _, _, (show (B_X4_leavingBy_4 a1 x3 x2 s) = (true, ((x3 + 1), x2, s)) from ((if_neg c0).trans ((if_neg c1).trans ((if_pos c3).trans rfl)))), hN⟩
      · exact ⟨_, _, _, _, (show (B_X4_leavingBy_4 a1 x3 x2 s) = (true, ((x3 + 1), (x2 ||| ((D_X4_fillRow s x3).2 23 12)), (D_X4_fillRow s x3).2)) from ((if_neg c0).trans ((if_neg c1).trans ((if_neg c3).trans rfl)))), (nn_X4_fillRow hN)⟩
noncomputable def R_X4_leavingBy_52 (s : Sg) (a2 : Int32) : Int32 × Sg := (((D_X4_loaded s) &&& (a2 ^^^ (-1))), s)
theorem r_X4_leavingBy_52 (hP : WOK b w H0) {s : Sg} {a2 : Int32} (hN : NN s) : Rx sc g_X4_leavingBy 4 ((52, [(0, .ref (b + 23)), (2, .int a2)], [])) (wd b w wl H0 s, kn) (some (.int (R_X4_leavingBy_52 s a2).1)) (wd b w wl H0 (R_X4_leavingBy_52 s a2).2, kn) := by
  show Rx sc g_X4_leavingBy 4 (52, [(0, .ref (b + 23)), (2, .int a2)], []) (wd b w wl H0 s, kn) (some (.int (R_X4_leavingBy_52 s a2).1)) (wd b w wl H0 (R_X4_leavingBy_52 s a2).2, kn)
  refine rx_k 1 (53, [(0, .ref (b + 23)), (2, .int a2)], [.ref (b + 23)]) (fun _ _ => rfl) ?_
  refine rx_inv rfl rfl (rc_X4_loaded hP hN) rfl rfl rfl (q_recv (wg_23 hP)) rfl rfl ?_
  refine rx_k 4 (60, [(0, .ref (b + 23)), (2, .int a2)], [.int ((D_X4_loaded s) &&& (a2 ^^^ (-1)))]) (fun _ _ => rfl) ?_
  rw [(show (R_X4_leavingBy_52 s a2) = (((D_X4_loaded s) &&& (a2 ^^^ (-1))), s) from rfl)]
  exact rx_ri rfl
theorem nr_X4_leavingBy_52 {s : Sg} {a2 : Int32} (hN : NN s) : NN ((R_X4_leavingBy_52 s a2).2) := by
  exact pair_of (P := fun zs => NN zs) (show (R_X4_leavingBy_52 s a2) = (((D_X4_loaded s) &&& (a2 ^^^ (-1))), s) from rfl) hN
noncomputable def D_X4_leavingBy (s : Sg) (a1 : Int32) : Int32 × Sg := (R_X4_leavingBy_52 ((itr (uc3 (B_X4_leavingBy_4 a1)) BIG (0, 0, s)).2.2) ((itr (uc3 (B_X4_leavingBy_4 a1)) BIG (0, 0, s)).2.1))
theorem m_X4_leavingBy (hP : WOK b w H0) {s : Sg} {a1 : Int32} (hN : NN s) : Rx sc g_X4_leavingBy 4 ((0, [(0, .ref (b + 23)), (1, .int a1)], [])) (wd b w wl H0 s, kn) (some (.int (D_X4_leavingBy s a1).1)) (wd b w wl H0 (D_X4_leavingBy s a1).2, kn) := by
  show Rx sc g_X4_leavingBy 4 (0, [(0, .ref (b + 23)), (1, .int a1)], []) (wd b w wl H0 s, kn) (some (.int (D_X4_leavingBy s a1).1)) (wd b w wl H0 (D_X4_leavingBy s a1).2, kn)
  refine rx_k 4 (4, [(3, .int 0), (2, .int 0), (0, .ref (b + 23)), (1, .int a1)], []) (fun _ _ => rfl) ?_
  refine rx_lo am_X4_leavingBy (lo := [(0, .ref (b + 23)), (1, .int a1), (2, .int 0), (3, .int 0)]) (List.forall_mem_cons.mpr ⟨List.mem_of_getElem? (i := 2) rfl, (List.forall_mem_cons.mpr ⟨List.mem_of_getElem? (i := 3) rfl, (List.forall_mem_cons.mpr ⟨List.mem_of_getElem? (i := 1) rfl, (List.forall_mem_cons.mpr ⟨List.mem_of_getElem? (i := 0) rfl, (fun _ h => absurd h List.not_mem_nil)⟩)⟩)⟩)⟩) rfl ?_
  refine rx_loop3s (B := B_X4_leavingBy_4 a1) (fr := (fr_X4_leavingBy_4 b w a1)) (E := (fe_X4_leavingBy_4 b w a1)) (I := fun z3 z2 zs => NN zs) (fun z3 z2 zs oo hh9 hI9 hv9 hc9 he9 => b_X4_leavingBy_4 hP oo hh9 hI9 hv9 hc9 he9) (fun z3 z2 zs hz => nb_X4_leavingBy_4 hz) BIG 0 0 s _ _ hN (by decide : (0 : Int) ≤ (0 : Int32).toInt) (le_enough (by decide : (0 : Int) ≤ (0 : Int32).toInt)) ?_
  rw [(show (D_X4_leavingBy s a1) = (R_X4_leavingBy_52 ((itr (uc3 (B_X4_leavingBy_4 a1)) BIG (0, 0, s)).2.2) ((itr (uc3 (B_X4_leavingBy_4 a1)) BIG (0, 0, s)).2.1)) from rfl)]
  exact r_X4_leavingBy_52 hP (itr_inv3 (B := B_X4_leavingBy_4 a1) (I := fun z3 z2 zs => NN zs) (fun z3 z2 zs hz => nb_X4_leavingBy_4 hz) BIG 0 0 s hN)
theorem rc_X4_leavingBy (hP : WOK b w H0) {s : Sg} {a1 : Int32} (hN : NN s) : Rc sc 5 72 [.ref (b + 23), .int a1] (wd b w wl H0 s, kn) (some (.int (D_X4_leavingBy s a1).1)) (wd b w wl H0 (D_X4_leavingBy s a1).2, kn) := rx_mc (m_X4_leavingBy hP hN) rfl rfl (Nat.ble_eq_true_of_le (Nat.le_refl _)) (Nat.ble_eq_true_of_le (Nat.le_refl _))
theorem nn_X4_leavingBy {s : Sg} {a1 : Int32} (hN : NN s) : NN (D_X4_leavingBy s a1).2 := by
  rw [show (D_X4_leavingBy s a1) = (R_X4_leavingBy_52 ((itr (uc3 (B_X4_leavingBy_4 a1)) BIG (0, 0, s)).2.2) ((itr (uc3 (B_X4_leavingBy_4 a1)) BIG (0, 0, s)).2.1)) from rfl]
  exact (nr_X4_leavingBy_52 (itr_inv3 (B := B_X4_leavingBy_4 a1) (I := fun z3 z2 zs => NN zs) (fun z3 z2 zs hz => nb_X4_leavingBy_4 hz) BIG 0 0 s hN))
theorem fwb_X4_leavingBy_4 {a1 : Int32} {x3 : Int32} {x2 : Int32} {s : Sg} {k j : Nat} (h23f12 : k ≠ 23 ∨ j ≠ 12) (h34 : k ≠ 34) : ∃ (f : Bool) (t3 : Int32) (t2 : Int32) (ts : Sg), (B_X4_leavingBy_4 a1 x3 x2 s) = (f, (t3, t2, ts)) ∧ ts k j = s k j := by
  by_cases c0 : 6 ≤ x3
  · exact ⟨_, _, _, _, (show (B_X4_leavingBy_4 a1 x3 x2 s) = (false, (x3, x2, s)) from ((if_pos c0).trans rfl)), rfl⟩
  · by_cases c1 : x3 = a1
    · by_cases c2 : ((D_X4_opened s x3) - 1) ≤ 0
      · exact ⟨_, _, _, _, (show (B_X4_leavingBy_4 a1 x3 x2 s) = (true, ((x3 + 1), x2, s)) from ((if_neg c0).trans ((if_pos c1).trans ((if_pos c2).trans rfl)))), rfl⟩
      · exact ⟨_, _, _, _, (show (B_X4_leavingBy_4 a1 x3 x2 s) = (true, ((x3 + 1), (x2 ||| ((D_X4_fillRow s x3).2 23 12)), (D_X4_fillRow s x3).2)) from ((if_neg c0).trans ((if_pos c1).trans ((if_neg c2).trans rfl)))), ((fw_X4_fillRow h23f12 h34).trans rfl)⟩
    · by_cases c3 : ((D_X4_opened s x3) - 0) ≤ 0
      · exact ⟨_, _, _, _, (show (B_X4_leavingBy_4 a1 x3 x2 s) = (true, ((x3 + 1), x2, s)) from ((if_neg c0).trans ((if_neg c1).trans ((if_pos c3).trans rfl)))), rfl⟩
      · exact ⟨_, _, _, _, (show (B_X4_leavingBy_4 a1 x3 x2 s) = (true, ((x3 + 1), (x2 ||| ((D_X4_fillRow s x3).2 23 12)), (D_X4_fillRow s x3).2)) from ((if_neg c0).trans ((if_neg c1).trans ((if_neg c3).trans rfl)))), ((fw_X4_fillRow h23f12 h34).trans rfl)⟩
theorem fwr_X4_leavingBy_52 {s : Sg} {a2 : Int32} {k j : Nat} (h23f12 : k ≠ 23 ∨ j ≠ 12) (h34 : k ≠ 34) : (R_X4_leavingBy_52 s a2).2 k j = s k j := by
  exact pair_of (P := fun zs => zs k j = s k j) (show (R_X4_leavingBy_52 s a2) = (((D_X4_loaded s) &&& (a2 ^^^ (-1))), s) from rfl) rfl
theorem fw_X4_leavingBy {s : Sg} {a1 : Int32} {k j : Nat} (h23f12 : k ≠ 23 ∨ j ≠ 12) (h34 : k ≠ 34) : (D_X4_leavingBy s a1).2 k j = s k j := by
  rw [show (D_X4_leavingBy s a1) = (R_X4_leavingBy_52 ((itr (uc3 (B_X4_leavingBy_4 a1)) BIG (0, 0, s)).2.2) ((itr (uc3 (B_X4_leavingBy_4 a1)) BIG (0, 0, s)).2.1)) from rfl]
  first | done | exact ((fwr_X4_leavingBy_52 h23f12 h34).trans ((itr_inv3 (B := B_X4_leavingBy_4 a1) (I := fun z3 z2 zs => zs k j = s k j) (fun z3 z2 zs hz => exq3 (fwb_X4_leavingBy_4 h23f12 h34) hz) BIG 0 0 s rfl).trans rfl))
-- LinkHarbour$LibraryTable.without
def fr_X4_without_32_5 (b w : Nat) (a1 : Int32) (a2 : Int32) (x4 : Int32) (x3 : Int32) : EF := (5, [(0, .ref (b + 32)), (1, .int a1), (2, .int a2), (3, .int x3), (4, .int x4)], [])
def fe_X4_without_32_5 (b w : Nat) (a1 : Int32) (a2 : Int32) (x4 : Int32) (x3 : Int32) : EF := (51, [(3, .int x3)], [])
noncomputable def B_X4_without_32_5 (a1 : Int32) (a2 : Int32) (x4 : Int32) (x3 : Int32) (s : Sg) : Bool × (Int32 × Int32 × Sg) := (if a1 ≤ x4 then (false, (x4, x3, s)) else (if 6 ≤ x4 then (false, (x4, x3, s)) else (if (D_X11_hasBit a2 (s 32 x4.toNatClampNeg)) = 0 then (if 6 ≤ x3 then (true, ((x4 + 1), x3, s)) else (true, ((x4 + 1), (x3 + 1), (up s 32 x3.toNatClampNeg (s 32 x4.toNatClampNeg))))) else (true, ((x4 + 1), x3, s)))))
theorem b_X4_without_32_5 (hP : WOK b w H0) {s : Sg} {a1 : Int32} {a2 : Int32} {x4 : Int32} {x3 : Int32} (o : Option Value) (h' : EH) (hN : NN s) (hv : 0 ≤ x4.toInt) (hp : 0 ≤ x3.toInt) (hc : ∀ (t4 : Int32) (t3 : Int32) (ts : Sg), (B_X4_without_32_5 a1 a2 x4 x3 s) = (true, (t4, t3, ts)) → x4.toInt < 2147483647 → t4 = x4 + 1 → Rx sc g_X4_without 1 (fr_X4_without_32_5 b w a1 a2 t4 t3) (wd b w wl H0 ts, kn) o h') (he : ∀ (t4 : Int32) (t3 : Int32) (ts : Sg), (B_X4_without_32_5 a1 a2 x4 x3 s) = (false, (t4, t3, ts)) → Rx sc g_X4_without 1 (fe_X4_without_32_5 b w a1 a2 t4 t3) (wd b w wl H0 ts, kn) o h') : Rx sc g_X4_without 1 (fr_X4_without_32_5 b w a1 a2 x4 x3) (wd b w wl H0 s, kn) o h' := by
  show Rx sc g_X4_without 1 (5, [(0, .ref (b + 32)), (1, .int a1), (2, .int a2), (3, .int x3), (4, .int x4)], []) (wd b w wl H0 s, kn) o h'
  refine rx_k 2 (8, [(0, .ref (b + 32)), (1, .int a1), (2, .int a2), (3, .int x3), (4, .int x4)], [.int a1, .int x4]) (fun _ _ => rfl) ?_
  by_cases c0 : a1 ≤ x4
  · refine rx_icT rfl (bt c0) ?_
    exact rx_lo am_X4_without (lo := [(3, .int x3)]) (List.forall_mem_cons.mpr ⟨List.mem_of_getElem? (i := 3) rfl, (fun _ h => absurd h List.not_mem_nil)⟩) rfl (he _ _ _ (show (B_X4_without_32_5 a1 a2 x4 x3 s) = (false, (x4, x3, s)) from ((if_pos c0).trans rfl)))
  · refine rx_icF rfl (bf c0) rfl ?_
    refine rx_k 2 (14, [(0, .ref (b + 32)), (1, .int a1), (2, .int a2), (3, .int x3), (4, .int x4)], [.ref (b + 32), .int x4]) (fun _ _ => rfl) ?_
    refine rx_alen (z := 6) rfl rfl (wg_32 hP) rfl rfl ?_
    by_cases c1 : 6 ≤ x4
    · refine rx_icT rfl (bt c1) ?_
      exact rx_lo am_X4_without (lo := [(3, .int x3)]) (List.forall_mem_cons.mpr ⟨List.mem_of_getElem? (i := 3) rfl, (fun _ h => absurd h List.not_mem_nil)⟩) rfl (he _ _ _ (show (B_X4_without_32_5 a1 a2 x4 x3 s) = (false, (x4, x3, s)) from ((if_neg c0).trans ((if_pos c1).trans rfl))))
    · refine rx_icF rfl (bf c1) rfl ?_
      refine rx_k 3 (22, [(0, .ref (b + 32)), (1, .int a1), (2, .int a2), (3, .int x3), (4, .int x4)], [.int x4, .ref (b + 32), .int a2]) (fun _ _ => rfl) ?_
      refine rx_ild rfl rfl (wg_32 hP) (ar_at (rg_c hv c1 (m := 6) (n := 6) rfl)) ?_
      refine rx_inv rfl rfl (rc_X11_hasBit) rfl rfl rfl rfl rfl rfl ?_
      by_cases c2 : (D_X11_hasBit a2 (s 32 x4.toNatClampNeg)) = 0
      · refine rx_ifF rfl (nf c2) rfl ?_
        refine rx_k 2 (31, [(0, .ref (b + 32)), (1, .int a1), (2, .int a2), (3, .int x3), (4, .int x4)], [.ref (b + 32), .int x3]) (fun _ _ => rfl) ?_
        refine rx_alen (z := 6) rfl rfl (wg_32 hP) rfl rfl ?_
        by_cases c3 : 6 ≤ x3
        · refine rx_icT rfl (bt c3) ?_
          refine rx_k 2 (5, [(4, .int (x4 + 1)), (0, .ref (b + 32)), (1, .int a1), (2, .int a2), (3, .int x3)], []) (fun _ _ => rfl) ?_
          refine rx_lo am_X4_without (lo := [(0, .ref (b + 32)), (1, .int a1), (2, .int a2), (3, .int x3), (4, .int (x4 + 1))]) (List.forall_mem_cons.mpr ⟨List.mem_of_getElem? (i := 1) rfl, (List.forall_mem_cons.mpr ⟨List.mem_of_getElem? (i := 2) rfl, (List.forall_mem_cons.mpr ⟨List.mem_of_getElem? (i := 3) rfl, (List.forall_mem_cons.mpr ⟨List.mem_of_getElem? (i := 4) rfl, (List.forall_mem_cons.mpr ⟨List.mem_of_getElem? (i := 0) rfl, (fun _ h => absurd h List.not_mem_nil)⟩)⟩)⟩)⟩)⟩) rfl (hc _ _ _ (show (B_X4_without_32_5 a1 a2 x4 x3 s) = (true, ((x4 + 1), x3, s)) from ((if_neg c0).trans ((if_neg c1).trans ((if_pos c2).trans ((if_pos c3).trans rfl))))) (lt_nle c0) rfl)
        · refine rx_icF rfl (bf c3) rfl ?_
          refine rx_k 4 (40, [(0, .ref (b + 32)), (1, .int a1), (2, .int a2), (3, .int x3), (4, .int x4)], [.int x4, .ref (b + 32), .int x3, .ref (b + 32)]) (fun _ _ => rfl) ?_
          refine rx_ild rfl rfl (wg_32 hP) (ar_at (rg_c hv c1 (m := 6) (n := 6) rfl)) ?_
          refine rx_ist rfl rfl (wg_32 hP) rfl (ar_at (rg_c hp c3 (m := 6) (n := 6) rfl)) (ws_32 hP (rg_c hp c3 (m := 6) (n := 6) rfl)) ?_
          refine rx_k 3 (5, [(4, .int (x4 + 1)), (3, .int (x3 + 1)), (0, .ref (b + 32)), (1, .int a1), (2, .int a2)], []) (fun _ _ => rfl) ?_
          refine rx_lo am_X4_without (lo := [(0, .ref (b + 32)), (1, .int a1), (2, .int a2), (3, .int (x3 + 1)), (4, .int (x4 + 1))]) (List.forall_mem_cons.mpr ⟨List.mem_of_getElem? (i := 2) rfl, (List.forall_mem_cons.mpr ⟨List.mem_of_getElem? (i := 3) rfl, (List.forall_mem_cons.mpr ⟨List.mem_of_getElem? (i := 4) rfl, (List.forall_mem_cons.mpr ⟨List.mem_of_getElem? (i := 1) rfl, (List.forall_mem_cons.mpr ⟨List.mem_of_getElem? (i := 0) rfl, (fun _ h => absurd h List.not_mem_nil)⟩)⟩)⟩)⟩)⟩) rfl (hc _ _ _ (show (B_X4_without_32_5 a1 a2 x4 x3 s) = (true, ((x4 + 1), (x3 + 1), (up s 32 x3.toNatClampNeg (s 32 x4.toNatClampNeg)))) from ((if_neg c0).trans ((if_neg c1).trans ((if_pos c2).trans ((if_neg c3).trans rfl))))) (lt_nle c0) rfl)
      · refine rx_ifT rfl (nt c2) ?_
        refine rx_k 2 (5, [(4, .int (x4 + 1)), (0, .ref (b + 32)), (1, .int a1), (2, .int a2), (3, .int x3)], []) (fun _ _ => rfl) ?_
        refine rx_lo am_X4_without (lo := [(0, .ref (b + 32)), (1, .int a1), (2, .int a2), (3, .int x3), (4, .int (x4 + 1))]) (List.forall_mem_cons.mpr ⟨List.mem_of_getElem? (i := 1) rfl, (List.forall_mem_cons.mpr ⟨List.mem_of_getElem? (i := 2) rfl, (List.forall_mem_cons.mpr ⟨List.mem_of_getElem? (i := 3) rfl, (List.forall_mem_cons.mpr ⟨List.mem_of_getElem? (i := 4) rfl, (List.forall_mem_cons.mpr ⟨List.mem_of_getElem? (i := 0) rfl, (fun _ h => absurd h List.not_mem_nil)⟩)⟩)⟩)⟩)⟩) rfl (hc _ _ _ (show (B_X4_without_32_5 a1 a2 x4 x3 s) = (true, ((x4 + 1), x3, s)) from ((if_neg c0).trans ((if_neg c1).trans ((if_neg c2).trans rfl)))) (lt_nle c0) rfl)
theorem nb_X4_without_32_5 {a1 : Int32} {a2 : Int32} {x4 : Int32} {x3 : Int32} {s : Sg} (hN : NN s) (hp : 0 ≤ x3.toInt) : ∃ (f : Bool) (t4 : Int32) (t3 : Int32) (ts : Sg), (B_X4_without_32_5 a1 a2 x4 x3 s) = (f, (t4, t3, ts)) ∧ NN ts ∧ 0 ≤ t3.toInt := by
  by_cases c0 : a1 ≤ x4
  · exact ⟨_, _, _, _, (show (B_X4_without_32_5 a1 a2 x4 x3 s) = (false, (x4, x3, s)) from ((if_pos c0).trans rfl)), hN, hp⟩
  · by_cases c1 : 6 ≤ x4
    · exact ⟨_, _, _, _, (show (B_X4_without_32_5 a1 a2 x4 x3 s) = (false, (x4, x3, s)) from ((if_neg c0).trans ((if_pos c1).trans rfl))), hN, hp⟩
    · by_cases c2 : (D_X11_hasBit a2 (s 32 x4.toNatClampNeg)) = 0
      · by_cases c3 : 6 ≤ x3
        · exact ⟨_, _, _, _, (show (B_X4_without_32_5 a1 a2 x4 x3 s) = (true, ((x4 + 1), x3, s)) from ((if_neg c0).trans ((if_neg c1).trans ((if_pos c2).trans ((if_pos c3).trans rfl))))), hN, (i_ge0 (Int32.not_lt.mpr c3) (m := 6) (n := 6) rfl (by decide))⟩
        · exact ⟨_, _, _, _, (show (B_X4_without_32_5 a1 a2 x4 x3 s) = (true, ((x4 + 1), (x3 + 1), (up s 32 x3.toNatClampNeg (s 32 x4.toNatClampNeg)))) from ((if_neg c0).trans ((if_neg c1).trans ((if_pos c2).trans ((if_neg c3).trans rfl))))), (nn_0 rfl hN), (nn_inc (rg_c hp c3 (m := 6) (n := 6) rfl).1 (lt_nle c3) (by decide))⟩
      · exact ⟨_, _, _, _, (show (B_X4_without_32_5 a1 a2 x4 x3 s) = (true, ((x4 + 1), x3, s)) from ((if_neg c0).trans ((if_neg c1).trans ((if_neg c2).trans rfl)))), hN, hp⟩
noncomputable def R_X4_without_32_51 (s : Sg) (a3 : Int32) : Int32 × Sg := (a3, s)
theorem r_X4_without_32_51 (hP : WOK b w H0) {s : Sg} {a3 : Int32} (hN : NN s) (hp : 0 ≤ a3.toInt) : Rx sc g_X4_without 1 ((51, [(3, .int a3)], [])) (wd b w wl H0 s, kn) (some (.int (R_X4_without_32_51 s a3).1)) (wd b w wl H0 (R_X4_without_32_51 s a3).2, kn) := by
  show Rx sc g_X4_without 1 (51, [(3, .int a3)], []) (wd b w wl H0 s, kn) (some (.int (R_X4_without_32_51 s a3).1)) (wd b w wl H0 (R_X4_without_32_51 s a3).2, kn)
  refine rx_k 1 (52, [(3, .int a3)], [.int a3]) (fun _ _ => rfl) ?_
  rw [(show (R_X4_without_32_51 s a3) = (a3, s) from rfl)]
  exact rx_ri rfl
theorem nr_X4_without_32_51 {s : Sg} {a3 : Int32} (hN : NN s) (hp : 0 ≤ a3.toInt) : NN ((R_X4_without_32_51 s a3).2) := by
  exact pair_of (P := fun zs => NN zs) (show (R_X4_without_32_51 s a3) = (a3, s) from rfl) hN
noncomputable def D_X4_without_32 (s : Sg) (a1 : Int32) (a2 : Int32) : Int32 × Sg := (R_X4_without_32_51 ((itr (uc3 (B_X4_without_32_5 a1 a2)) BIG (0, 0, s)).2.2) ((itr (uc3 (B_X4_without_32_5 a1 a2)) BIG (0, 0, s)).2.1))
theorem m_X4_without_32 (hP : WOK b w H0) {s : Sg} {a1 : Int32} {a2 : Int32} (hN : NN s) : Rx sc g_X4_without 1 ((0, [(0, .ref (b + 32)), (1, .int a1), (2, .int a2)], [])) (wd b w wl H0 s, kn) (some (.int (D_X4_without_32 s a1 a2).1)) (wd b w wl H0 (D_X4_without_32 s a1 a2).2, kn) := by
  show Rx sc g_X4_without 1 (0, [(0, .ref (b + 32)), (1, .int a1), (2, .int a2)], []) (wd b w wl H0 s, kn) (some (.int (D_X4_without_32 s a1 a2).1)) (wd b w wl H0 (D_X4_without_32 s a1 a2).2, kn)
  refine rx_k 4 (5, [(4, .int 0), (3, .int 0), (0, .ref (b + 32)), (1, .int a1), (2, .int a2)], []) (fun _ _ => rfl) ?_
  refine rx_lo am_X4_without (lo := [(0, .ref (b + 32)), (1, .int a1), (2, .int a2), (3, .int 0), (4, .int 0)]) (List.forall_mem_cons.mpr ⟨List.mem_of_getElem? (i := 2) rfl, (List.forall_mem_cons.mpr ⟨List.mem_of_getElem? (i := 3) rfl, (List.forall_mem_cons.mpr ⟨List.mem_of_getElem? (i := 4) rfl, (List.forall_mem_cons.mpr ⟨List.mem_of_getElem? (i := 1) rfl, (List.forall_mem_cons.mpr ⟨List.mem_of_getElem? (i := 0) rfl, (fun _ h => absurd h List.not_mem_nil)⟩)⟩)⟩)⟩)⟩) rfl ?_
  refine rx_loop3s (B := B_X4_without_32_5 a1 a2) (fr := (fr_X4_without_32_5 b w a1 a2)) (E := (fe_X4_without_32_5 b w a1 a2)) (I := fun z4 z3 zs => NN zs ∧ 0 ≤ z3.toInt) (fun z4 z3 zs oo hh9 hI9 hv9 hc9 he9 => b_X4_without_32_5 hP oo hh9 hI9.1 hv9 hI9.2 hc9 he9) (fun z4 z3 zs hz => nb_X4_without_32_5 hz.1 hz.2) BIG 0 0 s _ _ ⟨hN, (by decide : (0 : Int) ≤ (0 : Int32).toInt)⟩ (by decide : (0 : Int) ≤ (0 : Int32).toInt) (le_enough (by decide : (0 : Int) ≤ (0 : Int32).toInt)) ?_
  rw [(show (D_X4_without_32 s a1 a2) = (R_X4_without_32_51 ((itr (uc3 (B_X4_without_32_5 a1 a2)) BIG (0, 0, s)).2.2) ((itr (uc3 (B_X4_without_32_5 a1 a2)) BIG (0, 0, s)).2.1)) from rfl)]
  exact r_X4_without_32_51 hP (itr_inv3 (B := B_X4_without_32_5 a1 a2) (I := fun z4 z3 zs => NN zs ∧ 0 ≤ z3.toInt) (fun z4 z3 zs hz => nb_X4_without_32_5 hz.1 hz.2) BIG 0 0 s ⟨hN, (by decide : (0 : Int) ≤ (0 : Int32).toInt)⟩).1 (itr_inv3 (B := B_X4_without_32_5 a1 a2) (I := fun z4 z3 zs => NN zs ∧ 0 ≤ z3.toInt) (fun z4 z3 zs hz => nb_X4_without_32_5 hz.1 hz.2) BIG 0 0 s ⟨hN, (by decide : (0 : Int) ≤ (0 : Int32).toInt)⟩).2
theorem rc_X4_without_32 (hP : WOK b w H0) {s : Sg} {a1 : Int32} {a2 : Int32} (hN : NN s) : Rc sc 2 74 [.ref (b + 32), .int a1, .int a2] (wd b w wl H0 s, kn) (some (.int (D_X4_without_32 s a1 a2).1)) (wd b w wl H0 (D_X4_without_32 s a1 a2).2, kn) := rx_mc (m_X4_without_32 hP hN) rfl rfl (Nat.ble_eq_true_of_le (Nat.le_refl _)) (Nat.ble_eq_true_of_le (Nat.le_refl _))
theorem nn_X4_without_32 {s : Sg} {a1 : Int32} {a2 : Int32} (hN : NN s) : NN (D_X4_without_32 s a1 a2).2 := by
  rw [show (D_X4_without_32 s a1 a2) = (R_X4_without_32_51 ((itr (uc3 (B_X4_without_32_5 a1 a2)) BIG (0, 0, s)).2.2) ((itr (uc3 (B_X4_without_32_5 a1 a2)) BIG (0, 0, s)).2.1)) from rfl]
  exact (nr_X4_without_32_51 (itr_inv3 (B := B_X4_without_32_5 a1 a2) (I := fun z4 z3 zs => NN zs ∧ 0 ≤ z3.toInt) (fun z4 z3 zs hz => nb_X4_without_32_5 hz.1 hz.2) BIG 0 0 s ⟨hN, (by decide : (0 : Int) ≤ (0 : Int32).toInt)⟩).1 (itr_inv3 (B := B_X4_without_32_5 a1 a2) (I := fun z4 z3 zs => NN zs ∧ 0 ≤ z3.toInt) (fun z4 z3 zs hz => nb_X4_without_32_5 hz.1 hz.2) BIG 0 0 s ⟨hN, (by decide : (0 : Int) ≤ (0 : Int32).toInt)⟩).2)
theorem fwb_X4_without_32_5 {a1 : Int32} {a2 : Int32} {x4 : Int32} {x3 : Int32} {s : Sg} {k j : Nat} (h32 : k ≠ 32) : ∃ (f : Bool) (t4 : Int32) (t3 : Int32) (ts : Sg), (B_X4_without_32_5 a1 a2 x4 x3 s) = (f, (t4, t3, ts)) ∧ ts k j = s k j := by
  by_cases c0 : a1 ≤ x4
  · exact ⟨_, _, _, _, (show (B_X4_without_32_5 a1 a2 x4 x3 s) = (false, (x4, x3, s)) from ((if_pos c0).trans rfl)), rfl⟩
  · by_cases c1 : 6 ≤ x4
    · exact ⟨_, _, _, _, (show (B_X4_without_32_5 a1 a2 x4 x3 s) = (false, (x4, x3, s)) from ((if_neg c0).trans ((if_pos c1).trans rfl))), rfl⟩
    · by_cases c2 : (D_X11_hasBit a2 (s 32 x4.toNatClampNeg)) = 0
      · by_cases c3 : 6 ≤ x3
        · exact ⟨_, _, _, _, (show (B_X4_without_32_5 a1 a2 x4 x3 s) = (true, ((x4 + 1), x3, s)) from ((if_neg c0).trans ((if_neg c1).trans ((if_pos c2).trans ((if_pos c3).trans rfl))))), rfl⟩
        · exact ⟨_, _, _, _, (show (B_X4_without_32_5 a1 a2 x4 x3 s) = (true, ((x4 + 1), (x3 + 1), (up s 32 x3.toNatClampNeg (s 32 x4.toNatClampNeg)))) from ((if_neg c0).trans ((if_neg c1).trans ((if_pos c2).trans ((if_neg c3).trans rfl))))), ((up_a h32).trans rfl)⟩
      · exact ⟨_, _, _, _, (show (B_X4_without_32_5 a1 a2 x4 x3 s) = (true, ((x4 + 1), x3, s)) from ((if_neg c0).trans ((if_neg c1).trans ((if_neg c2).trans rfl)))), rfl⟩
theorem fwr_X4_without_32_51 {s : Sg} {a3 : Int32} {k j : Nat} (h32 : k ≠ 32) : (R_X4_without_32_51 s a3).2 k j = s k j := by
  exact pair_of (P := fun zs => zs k j = s k j) (show (R_X4_without_32_51 s a3) = (a3, s) from rfl) rfl
theorem fw_X4_without_32 {s : Sg} {a1 : Int32} {a2 : Int32} {k j : Nat} (h32 : k ≠ 32) : (D_X4_without_32 s a1 a2).2 k j = s k j := by
  rw [show (D_X4_without_32 s a1 a2) = (R_X4_without_32_51 ((itr (uc3 (B_X4_without_32_5 a1 a2)) BIG (0, 0, s)).2.2) ((itr (uc3 (B_X4_without_32_5 a1 a2)) BIG (0, 0, s)).2.1)) from rfl]
  first | done | exact ((fwr_X4_without_32_51 h32).trans ((itr_inv3 (B := B_X4_without_32_5 a1 a2) (I := fun z4 z3 zs => zs k j = s k j) (fun z4 z3 zs hz => exq3 (fwb_X4_without_32_5 h32) hz) BIG 0 0 s rfl).trans rfl))
theorem wo_32 {s : Sg} {a1 a2 : Int32} (hN : NN s) : 0 ≤ (D_X4_without_32 s a1 a2).1.toInt :=
  (itr_inv3 (B := B_X4_without_32_5 a1 a2) (I := fun _ z zs => NN zs ∧ 0 ≤ z.toInt) (fun _ _ _ hz => nb_X4_without_32_5 hz.1 hz.2) BIG 0 0 s ⟨hN, (by decide : (0 : Int) ≤ (0 : Int32).toInt)⟩).2
end DD
