section DD
variable {sc : Nat × (Nat → Int32)} {b w wl : Nat} {H0 : List EC} {kn : Nat × Nat}
-- LinkHarbour$Link.tellFaults
def fr_X5_tellFaults_9 (b w : Nat) (q : Nat) (a1 : Int32) (x2 : Int32) : EF := (9, [(0, .ref (b + q)), (1, .int a1), (2, .int x2)], [])
def fe_X5_tellFaults_9 (b w : Nat) (q : Nat) (a1 : Int32) (x2 : Int32) : EF := (43, [(0, .ref (b + q)), (1, .int a1)], [])
noncomputable def B_X5_tellFaults_9 (q : Nat) (a1 : Int32) (x2 : Int32) (s : Sg) : Bool × (Int32 × Sg) := (if 20 ≤ x2 then (false, (x2, s)) else (if (D_X9_isTwiceStrong q s x2) = 0 then (true, ((x2 + 1), s)) else (true, ((x2 + 1), (D_X0_add q s 1 x2 (-1) (-1))))))
theorem b_X5_tellFaults_9 (hP : WOK b w H0) {q : Nat} (hq : q = 38 ∨ q = 60) {s : Sg} {a1 : Int32} {x2 : Int32} (o : Option Value) (h' : EH) (hN : NN s) (hv : 0 ≤ x2.toInt) (hc : ∀ (t2 : Int32) (ts : Sg), (B_X5_tellFaults_9 q a1 x2 s) = (true, (t2, ts)) → x2.toInt < 2147483647 → t2 = x2 + 1 → Rx sc g_X5_tellFaults 3 (fr_X5_tellFaults_9 b w q a1 t2) (wd b w wl H0 ts, kn) o h') (he : ∀ (t2 : Int32) (ts : Sg), (B_X5_tellFaults_9 q a1 x2 s) = (false, (t2, ts)) → Rx sc g_X5_tellFaults 3 (fe_X5_tellFaults_9 b w q a1 t2) (wd b w wl H0 ts, kn) o h') : Rx sc g_X5_tellFaults 3 (fr_X5_tellFaults_9 b w q a1 x2) (wd b w wl H0 s, kn) o h' := by
  show Rx sc g_X5_tellFaults 3 (9, [(0, .ref (b + q)), (1, .int a1), (2, .int x2)], []) (wd b w wl H0 s, kn) o h'
  refine rx_k 2 (12, [(0, .ref (b + q)), (1, .int a1), (2, .int x2)], [.int 20, .int x2]) (fun _ _ => rfl) ?_
  by_cases c0 : 20 ≤ x2
  · refine rx_icT rfl (bt c0) ?_
    exact rx_lo am_X5_tellFaults (lo := [(0, .ref (b + q)), (1, .int a1)]) (List.forall_mem_cons.mpr ⟨List.mem_of_getElem? (i := 0) rfl, (List.forall_mem_cons.mpr ⟨List.mem_of_getElem? (i := 1) rfl, (fun _ h => absurd h List.not_mem_nil)⟩)⟩) rfl (he _ _ (show (B_X5_tellFaults_9 q a1 x2 s) = (false, (x2, s)) from ((if_pos c0).trans rfl)))
  · refine rx_icF rfl (bf c0) rfl ?_
    refine rx_k 1 (16, [(0, .ref (b + q)), (1, .int a1), (2, .int x2)], [.ref (b + q)]) (fun _ _ => rfl) ?_
    refine rx_getf rfl rfl (wl_0 hP hq) rfl ?_
    refine rx_k 1 (20, [(0, .ref (b + q)), (1, .int a1), (2, .int x2)], [.int x2, .ref (b + (q + 5))]) (fun _ _ => rfl) ?_
    refine rx_inv rfl rfl (rc_X9_isTwiceStrong hP hq) rfl rfl rfl (q_recv (wl_5 hP hq)) rfl rfl ?_
    by_cases c1 : (D_X9_isTwiceStrong q s x2) = 0
    · refine rx_ifT rfl (bt c1) ?_
      refine rx_k 2 (9, [(2, .int (x2 + 1)), (0, .ref (b + q)), (1, .int a1)], []) (fun _ _ => rfl) ?_
      refine rx_lo am_X5_tellFaults (lo := [(0, .ref (b + q)), (1, .int a1), (2, .int (x2 + 1))]) (List.forall_mem_cons.mpr ⟨List.mem_of_getElem? (i := 1) rfl, (List.forall_mem_cons.mpr ⟨List.mem_of_getElem? (i := 2) rfl, (List.forall_mem_cons.mpr ⟨List.mem_of_getElem? (i := 0) rfl, (fun _ h => absurd h List.not_mem_nil)⟩)⟩)⟩) rfl (hc _ _ (show (B_X5_tellFaults_9 q a1 x2 s) = (true, ((x2 + 1), s)) from ((if_neg c0).trans ((if_pos c1).trans rfl))) (lt_nle c0) rfl)
    · refine rx_ifF rfl (bf c1) rfl ?_
      refine rx_k 1 (27, [(0, .ref (b + q)), (1, .int a1), (2, .int x2)], [.ref (b + q)]) (fun _ _ => rfl) ?_
      refine rx_getf rfl rfl (wl_0 hP hq) rfl ?_
      refine rx_k 4 (34, [(0, .ref (b + q)), (1, .int a1), (2, .int x2)], [.int (-1), .int (-1), .int x2, .int 1, .ref (b + (q + 1))]) (fun _ _ => rfl) ?_
      refine rx_inv rfl rfl (rc_X0_add hP hq hN) rfl rfl rfl (q_recv (wl_1 hP hq)) rfl rfl ?_
      refine rx_k 2 (9, [(2, .int (x2 + 1)), (0, .ref (b + q)), (1, .int a1)], []) (fun _ _ => rfl) ?_
      refine rx_lo am_X5_tellFaults (lo := [(0, .ref (b + q)), (1, .int a1), (2, .int (x2 + 1))]) (List.forall_mem_cons.mpr ⟨List.mem_of_getElem? (i := 1) rfl, (List.forall_mem_cons.mpr ⟨List.mem_of_getElem? (i := 2) rfl, (List.forall_mem_cons.mpr ⟨List.mem_of_getElem? (i := 0) rfl, (fun _ h => absurd h List.not_mem_nil)⟩)⟩)⟩) rfl (hc _ _ (show (B_X5_tellFaults_9 q a1 x2 s) = (true, ((x2 + 1), (D_X0_add q s 1 x2 (-1) (-1)))) from ((if_neg c0).trans ((if_neg c1).trans rfl))) (lt_nle c0) rfl)
theorem nb_X5_tellFaults_9 {q : Nat} (hq : q = 38 ∨ q = 60) {a1 : Int32} {x2 : Int32} {s : Sg} (hN : NN s) : ∃ (f : Bool) (t2 : Int32) (ts : Sg), (B_X5_tellFaults_9 q a1 x2 s) = (f, (t2, ts)) ∧ NN ts := by
  by_cases c0 : 20 ≤ x2
  · exact ⟨_, _, _, (show (B_X5_tellFaults_9 q a1 x2 s) = (false, (x2, s)) from ((if_pos c0).trans rfl)), hN⟩
  · by_cases c1 : (D_X9_isTwiceStrong q s x2) = 0
    · exact ⟨_, _, _, (show (B_X5_tellFaults_9 q a1 x2 s) = (true, ((x2 + 1), s)) from ((if_neg c0).trans ((if_pos c1).trans rfl))), hN⟩
    · exact ⟨_, _, _, (show (B_X5_tellFaults_9 q a1 x2 s) = (true, ((x2 + 1), (D_X0_add q s 1 x2 (-1) (-1)))) from ((if_neg c0).trans ((if_neg c1).trans rfl))), (nn_X0_add hq hN)⟩
def fr_X5_tellFaults_74 (b w : Nat) (q : Nat) (a1 : Int32) (x2 : Int32) : EF := (74, [(0, .ref (b + q)), (1, .int a1), (2, .int x2)], [])
def fe_X5_tellFaults_74 (b w : Nat) (q : Nat) (a1 : Int32) (x2 : Int32) : EF := (143, [], [])
def fr_X5_tellFaults_97 (b w : Nat) (q : Nat) (a1 : Int32) (a2 : Int32) (a3 : Int32) (x4 : Int32) : EF := (97, [(0, .ref (b + q)), (1, .int a1), (2, .int a2), (3, .int a3), (4, .int x4)], [])
def fe_X5_tellFaults_97 (b w : Nat) (q : Nat) (a1 : Int32) (a2 : Int32) (a3 : Int32) (x4 : Int32) : EF := (137, [(0, .ref (b + q)), (1, .int a1), (2, .int a2)], [])
noncomputable def B_X5_tellFaults_97 (q : Nat) (a1 : Int32) (a2 : Int32) (a3 : Int32) (x4 : Int32) (s : Sg) : Bool × (Int32 × Sg) := (if (D_X8_pieces s a3) ≤ x4 then (false, (x4, s)) else (if (D_X8_isReference s a3 x4) = 0 then (true, ((x4 + 1), s)) else (true, ((x4 + 1), (D_X5_tellFaultsOf q s a3 x4 a1)))))
theorem b_X5_tellFaults_97 (hP : WOK b w H0) {q : Nat} (hq : q = 38 ∨ q = 60) {s : Sg} {a1 : Int32} {a2 : Int32} {a3 : Int32} {x4 : Int32} (o : Option Value) (h' : EH) (hN : NN s) (hv : 0 ≤ x4.toInt) (hc : ∀ (t4 : Int32) (ts : Sg), (B_X5_tellFaults_97 q a1 a2 a3 x4 s) = (true, (t4, ts)) → x4.toInt < 2147483647 → t4 = x4 + 1 → Rx sc g_X5_tellFaults 3 (fr_X5_tellFaults_97 b w q a1 a2 a3 t4) (wd b w wl H0 ts, kn) o h') (he : ∀ (t4 : Int32) (ts : Sg), (B_X5_tellFaults_97 q a1 a2 a3 x4 s) = (false, (t4, ts)) → Rx sc g_X5_tellFaults 3 (fe_X5_tellFaults_97 b w q a1 a2 a3 t4) (wd b w wl H0 ts, kn) o h') : Rx sc g_X5_tellFaults 3 (fr_X5_tellFaults_97 b w q a1 a2 a3 x4) (wd b w wl H0 s, kn) o h' := by
  show Rx sc g_X5_tellFaults 3 (97, [(0, .ref (b + q)), (1, .int a1), (2, .int a2), (3, .int a3), (4, .int x4)], []) (wd b w wl H0 s, kn) o h'
  refine rx_k 2 (100, [(0, .ref (b + q)), (1, .int a1), (2, .int a2), (3, .int a3), (4, .int x4)], [.ref (b + q), .int x4]) (fun _ _ => rfl) ?_
  refine rx_getf rfl rfl (wl_0 hP hq) rfl ?_
  refine rx_k 1 (104, [(0, .ref (b + q)), (1, .int a1), (2, .int a2), (3, .int a3), (4, .int x4)], [.int a3, .ref (b + 11), .int x4]) (fun _ _ => rfl) ?_
  refine rx_inv rfl rfl (rc_X8_pieces hP) rfl rfl rfl (q_recv (wg_11 hP)) rfl rfl ?_
  by_cases c0 : (D_X8_pieces s a3) ≤ x4
  · refine rx_icT rfl (bt c0) ?_
    exact rx_lo am_X5_tellFaults (lo := [(0, .ref (b + q)), (1, .int a1), (2, .int a2)]) (List.forall_mem_cons.mpr ⟨List.mem_of_getElem? (i := 0) rfl, (List.forall_mem_cons.mpr ⟨List.mem_of_getElem? (i := 1) rfl, (List.forall_mem_cons.mpr ⟨List.mem_of_getElem? (i := 2) rfl, (fun _ h => absurd h List.not_mem_nil)⟩)⟩)⟩) rfl (he _ _ (show (B_X5_tellFaults_97 q a1 a2 a3 x4 s) = (false, (x4, s)) from ((if_pos c0).trans rfl)))
  · refine rx_icF rfl (bf c0) rfl ?_
    refine rx_k 1 (111, [(0, .ref (b + q)), (1, .int a1), (2, .int a2), (3, .int a3), (4, .int x4)], [.ref (b + q)]) (fun _ _ => rfl) ?_
    refine rx_getf rfl rfl (wl_0 hP hq) rfl ?_
    refine rx_k 2 (117, [(0, .ref (b + q)), (1, .int a1), (2, .int a2), (3, .int a3), (4, .int x4)], [.int x4, .int a3, .ref (b + 11)]) (fun _ _ => rfl) ?_
    refine rx_inv rfl rfl (rc_X8_isReference hP) rfl rfl rfl (q_recv (wg_11 hP)) rfl rfl ?_
    by_cases c1 : (D_X8_isReference s a3 x4) = 0
    · refine rx_ifT rfl (bt c1) ?_
      refine rx_k 2 (97, [(4, .int (x4 + 1)), (0, .ref (b + q)), (1, .int a1), (2, .int a2), (3, .int a3)], []) (fun _ _ => rfl) ?_
      refine rx_lo am_X5_tellFaults (lo := [(0, .ref (b + q)), (1, .int a1), (2, .int a2), (3, .int a3), (4, .int (x4 + 1))]) (List.forall_mem_cons.mpr ⟨List.mem_of_getElem? (i := 1) rfl, (List.forall_mem_cons.mpr ⟨List.mem_of_getElem? (i := 2) rfl, (List.forall_mem_cons.mpr ⟨List.mem_of_getElem? (i := 3) rfl, (List.forall_mem_cons.mpr ⟨List.mem_of_getElem? (i := 4) rfl, (List.forall_mem_cons.mpr ⟨List.mem_of_getElem? (i := 0) rfl, (fun _ h => absurd h List.not_mem_nil)⟩)⟩)⟩)⟩)⟩) rfl (hc _ _ (show (B_X5_tellFaults_97 q a1 a2 a3 x4 s) = (true, ((x4 + 1), s)) from ((if_neg c0).trans ((if_pos c1).trans rfl))) (lt_nle c0) rfl)
    · refine rx_ifF rfl (bf c1) rfl ?_
      refine rx_k 4 (128, [(0, .ref (b + q)), (1, .int a1), (2, .int a2), (3, .int a3), (4, .int x4)], [.int a1, .int x4, .int a3, .ref (b + q)]) (fun _ _ => rfl) ?_
      refine rx_inv rfl rfl (rc_X5_tellFaultsOf hP hq hN) rfl rfl rfl (q_recv (wl_0 hP hq)) rfl rfl ?_
      refine rx_k 2 (97, [(4, .int (x4 + 1)), (0, .ref (b + q)), (1, .int a1), (2, .int a2), (3, .int a3)], []) (fun _ _ => rfl) ?_
      refine rx_lo am_X5_tellFaults (lo := [(0, .ref (b + q)), (1, .int a1), (2, .int a2), (3, .int a3), (4, .int (x4 + 1))]) (List.forall_mem_cons.mpr ⟨List.mem_of_getElem? (i := 1) rfl, (List.forall_mem_cons.mpr ⟨List.mem_of_getElem? (i := 2) rfl, (List.forall_mem_cons.mpr ⟨List.mem_of_getElem? (i := 3) rfl, (List.forall_mem_cons.mpr ⟨List.mem_of_getElem? (i := 4) rfl, (List.forall_mem_cons.mpr ⟨List.mem_of_getElem? (i := 0) rfl, (fun _ h => absurd h List.not_mem_nil)⟩)⟩)⟩)⟩)⟩) rfl (hc _ _ (show (B_X5_tellFaults_97 q a1 a2 a3 x4 s) = (true, ((x4 + 1), (D_X5_tellFaultsOf q s a3 x4 a1))) from ((if_neg c0).trans ((if_neg c1).trans rfl))) (lt_nle c0) rfl)
theorem nb_X5_tellFaults_97 {q : Nat} (hq : q = 38 ∨ q = 60) {a1 : Int32} {a2 : Int32} {a3 : Int32} {x4 : Int32} {s : Sg} (hN : NN s) : ∃ (f : Bool) (t4 : Int32) (ts : Sg), (B_X5_tellFaults_97 q a1 a2 a3 x4 s) = (f, (t4, ts)) ∧ NN ts := by
  by_cases c0 : (D_X8_pieces s a3) ≤ x4
  · exact ⟨_, _, _, (show (B_X5_tellFaults_97 q a1 a2 a3 x4 s) = (false, (x4, s)) from ((if_pos c0).trans rfl)), hN⟩
  · by_cases c1 : (D_X8_isReference s a3 x4) = 0
    · exact ⟨_, _, _, (show (B_X5_tellFaults_97 q a1 a2 a3 x4 s) = (true, ((x4 + 1), s)) from ((if_neg c0).trans ((if_pos c1).trans rfl))), hN⟩
    · exact ⟨_, _, _, (show (B_X5_tellFaults_97 q a1 a2 a3 x4 s) = (true, ((x4 + 1), (D_X5_tellFaultsOf q s a3 x4 a1))) from ((if_neg c0).trans ((if_neg c1).trans rfl))), (nn_X5_tellFaultsOf hq hN)⟩
noncomputable def R_X5_tellFaults_137 (q : Nat) (s : Sg) (a1 : Int32) (a2 : Int32) : Bool × (Int32 × Sg) := (true, ((a2 + 1), s))
theorem r_X5_tellFaults_137 (hP : WOK b w H0) {q : Nat} (hq : q = 38 ∨ q = 60) {s : Sg} {a1 : Int32} {a2 : Int32} (o : Option Value) (h' : EH) (hN : NN s) (hv : 0 ≤ (a2).toInt) (hlt : (a2).toInt < 2147483647) (hc : ∀ (t2 : Int32) (ts : Sg), (R_X5_tellFaults_137 q s a1 a2) = (true, (t2, ts)) → a2.toInt < 2147483647 → t2 = a2 + 1 → Rx sc g_X5_tellFaults 3 (fr_X5_tellFaults_74 b w q a1 t2) (wd b w wl H0 ts, kn) o h') (he : ∀ (t2 : Int32) (ts : Sg), (R_X5_tellFaults_137 q s a1 a2) = (false, (t2, ts)) → Rx sc g_X5_tellFaults 3 (fe_X5_tellFaults_74 b w q a1 t2) (wd b w wl H0 ts, kn) o h') : Rx sc g_X5_tellFaults 3 ((137, [(0, .ref (b + q)), (1, .int a1), (2, .int a2)], [])) (wd b w wl H0 s, kn) o h' := by
  show Rx sc g_X5_tellFaults 3 (137, [(0, .ref (b + q)), (1, .int a1), (2, .int a2)], []) (wd b w wl H0 s, kn) o h'
  refine rx_k 2 (74, [(2, .int (a2 + 1)), (0, .ref (b + q)), (1, .int a1)], []) (fun _ _ => rfl) ?_
  refine rx_lo am_X5_tellFaults (lo := [(0, .ref (b + q)), (1, .int a1), (2, .int (a2 + 1))]) (List.forall_mem_cons.mpr ⟨List.mem_of_getElem? (i := 1) rfl, (List.forall_mem_cons.mpr ⟨List.mem_of_getElem? (i := 2) rfl, (List.forall_mem_cons.mpr ⟨List.mem_of_getElem? (i := 0) rfl, (fun _ h => absurd h List.not_mem_nil)⟩)⟩)⟩) rfl (hc _ _ (show (R_X5_tellFaults_137 q s a1 a2) = (true, ((a2 + 1), s)) from rfl) hlt rfl)
theorem nr_X5_tellFaults_137 {q : Nat} (hq : q = 38 ∨ q = 60) {s : Sg} {a1 : Int32} {a2 : Int32} (hN : NN s) : ∃ (f : Bool) (t2 : Int32) (ts : Sg), (R_X5_tellFaults_137 q s a1 a2) = (f, (t2, ts)) ∧ NN ts := by
  exact ⟨_, _, _, (show (R_X5_tellFaults_137 q s a1 a2) = (true, ((a2 + 1), s)) from rfl), hN⟩
noncomputable def B_X5_tellFaults_74 (q : Nat) (a1 : Int32) (x2 : Int32) (s : Sg) : Bool × (Int32 × Sg) := (if (D_X3_laid q s) ≤ x2 then (false, (x2, s)) else (R_X5_tellFaults_137 q ((itr (uc2 (B_X5_tellFaults_97 q a1 x2 (D_X3_sectionAt q s x2))) BIG (0, s)).2) a1 x2))
theorem b_X5_tellFaults_74 (hP : WOK b w H0) {q : Nat} (hq : q = 38 ∨ q = 60) {s : Sg} {a1 : Int32} {x2 : Int32} (o : Option Value) (h' : EH) (hN : NN s) (hv : 0 ≤ x2.toInt) (hc : ∀ (t2 : Int32) (ts : Sg), (B_X5_tellFaults_74 q a1 x2 s) = (true, (t2, ts)) → x2.toInt < 2147483647 → t2 = x2 + 1 → Rx sc g_X5_tellFaults 3 (fr_X5_tellFaults_74 b w q a1 t2) (wd b w wl H0 ts, kn) o h') (he : ∀ (t2 : Int32) (ts : Sg), (B_X5_tellFaults_74 q a1 x2 s) = (false, (t2, ts)) → Rx sc g_X5_tellFaults 3 (fe_X5_tellFaults_74 b w q a1 t2) (wd b w wl H0 ts, kn) o h') : Rx sc g_X5_tellFaults 3 (fr_X5_tellFaults_74 b w q a1 x2) (wd b w wl H0 s, kn) o h' := by
  show Rx sc g_X5_tellFaults 3 (74, [(0, .ref (b + q)), (1, .int a1), (2, .int x2)], []) (wd b w wl H0 s, kn) o h'
  refine rx_k 2 (76, [(0, .ref (b + q)), (1, .int a1), (2, .int x2)], [.ref (b + q), .int x2]) (fun _ _ => rfl) ?_
  refine rx_getf rfl rfl (wl_0 hP hq) rfl ?_
  refine rx_inv rfl rfl (rc_X3_laid hP hq) rfl rfl rfl (q_recv (wl_15 hP hq)) rfl rfl ?_
  by_cases c0 : (D_X3_laid q s) ≤ x2
  · refine rx_icT rfl (bt c0) ?_
    exact rx_lo am_X5_tellFaults (lo := []) (fun _ h => absurd h List.not_mem_nil) rfl (he _ _ (show (B_X5_tellFaults_74 q a1 x2 s) = (false, (x2, s)) from ((if_pos c0).trans rfl)))
  · refine rx_icF rfl (bf c0) rfl ?_
    refine rx_k 1 (86, [(0, .ref (b + q)), (1, .int a1), (2, .int x2)], [.ref (b + q)]) (fun _ _ => rfl) ?_
    refine rx_getf rfl rfl (wl_0 hP hq) rfl ?_
    refine rx_k 1 (90, [(0, .ref (b + q)), (1, .int a1), (2, .int x2)], [.int x2, .ref (b + (q + 15))]) (fun _ _ => rfl) ?_
    refine rx_inv rfl rfl (rc_X3_sectionAt hP hq) rfl rfl rfl (q_recv (wl_15 hP hq)) rfl rfl ?_
    refine rx_k 3 (97, [(4, .int 0), (3, .int (D_X3_sectionAt q s x2)), (0, .ref (b + q)), (1, .int a1), (2, .int x2)], []) (fun _ _ => rfl) ?_
    refine rx_lo am_X5_tellFaults (lo := [(0, .ref (b + q)), (1, .int a1), (2, .int x2), (3, .int (D_X3_sectionAt q s x2)), (4, .int 0)]) (List.forall_mem_cons.mpr ⟨List.mem_of_getElem? (i := 2) rfl, (List.forall_mem_cons.mpr ⟨List.mem_of_getElem? (i := 3) rfl, (List.forall_mem_cons.mpr ⟨List.mem_of_getElem? (i := 4) rfl, (List.forall_mem_cons.mpr ⟨List.mem_of_getElem? (i := 1) rfl, (List.forall_mem_cons.mpr ⟨List.mem_of_getElem? (i := 0) rfl, (fun _ h => absurd h List.not_mem_nil)⟩)⟩)⟩)⟩)⟩) rfl ?_
    refine rx_loop2s (B := B_X5_tellFaults_97 q a1 x2 (D_X3_sectionAt q s x2)) (fr := (fr_X5_tellFaults_97 b w q a1 x2 (D_X3_sectionAt q s x2))) (E := (fe_X5_tellFaults_97 b w q a1 x2 (D_X3_sectionAt q s x2))) (I := fun z4 zs => NN zs) (fun z4 zs oo hh9 hI9 hv9 hc9 he9 => b_X5_tellFaults_97 hP hq oo hh9 hI9 hv9 hc9 he9) (fun z4 zs hz => nb_X5_tellFaults_97 hq hz) BIG 0 s _ _ hN (by decide : (0 : Int) ≤ (0 : Int32).toInt) (le_enough (by decide : (0 : Int) ≤ (0 : Int32).toInt)) ?_
    have e9 := (show (B_X5_tellFaults_74 q a1 x2 s) = (R_X5_tellFaults_137 q ((itr (uc2 (B_X5_tellFaults_97 q a1 x2 (D_X3_sectionAt q s x2))) BIG (0, s)).2) a1 x2) from ((if_neg c0).trans rfl))
    exact r_X5_tellFaults_137 hP hq o h' (itr_inv2 (B := B_X5_tellFaults_97 q a1 x2 (D_X3_sectionAt q s x2)) (I := fun z4 zs => NN zs) (fun z4 zs hz => nb_X5_tellFaults_97 hq hz) BIG 0 s hN) hv (lt_nle c0) (fun t2 ts e8 l8 v8 => hc t2 ts (e9.trans e8) l8 v8) (fun t2 ts e8 => he t2 ts (e9.trans e8))
theorem nb_X5_tellFaults_74 {q : Nat} (hq : q = 38 ∨ q = 60) {a1 : Int32} {x2 : Int32} {s : Sg} (hN : NN s) : ∃ (f : Bool) (t2 : Int32) (ts : Sg), (B_X5_tellFaults_74 q a1 x2 s) = (f, (t2, ts)) ∧ NN ts := by
  by_cases c0 : (D_X3_laid q s) ≤ x2
  · exact ⟨_, _, _, (show (B_X5_tellFaults_74 q a1 x2 s) = (false, (x2, s)) from ((if_pos c0).trans rfl)), hN⟩
  · rw [show (B_X5_tellFaults_74 q a1 x2 s) = (R_X5_tellFaults_137 q ((itr (uc2 (B_X5_tellFaults_97 q a1 x2 (D_X3_sectionAt q s x2))) BIG (0, s)).2) a1 x2) from ((if_neg c0).trans rfl)]
    exact (nr_X5_tellFaults_137 hq (itr_inv2 (B := B_X5_tellFaults_97 q a1 x2 (D_X3_sectionAt q s x2)) (I := fun z4 zs => NN zs) (fun z4 zs hz => nb_X5_tellFaults_97 hq hz) BIG 0 s hN))
noncomputable def R_X5_tellFaults_143 (q : Nat) (s : Sg) : Sg := s
theorem r_X5_tellFaults_143 (hP : WOK b w H0) {q : Nat} (hq : q = 38 ∨ q = 60) {s : Sg} (hN : NN s) : Rx sc g_X5_tellFaults 3 ((143, [], [])) (wd b w wl H0 s, kn) none (wd b w wl H0 (R_X5_tellFaults_143 q s), kn) := by
  show Rx sc g_X5_tellFaults 3 (143, [], []) (wd b w wl H0 s, kn) none (wd b w wl H0 (R_X5_tellFaults_143 q s), kn)
  rw [(show (R_X5_tellFaults_143 q s) = s from rfl)]
  exact rx_rv rfl
theorem nr_X5_tellFaults_143 {q : Nat} (hq : q = 38 ∨ q = 60) {s : Sg} (hN : NN s) : NN ((R_X5_tellFaults_143 q s)) := by
  rw [show (R_X5_tellFaults_143 q s) = s from rfl]
  exact hN
noncomputable def R_X5_tellFaults_43 (q : Nat) (s : Sg) (a1 : Int32) : Sg := (if (D_X9_kind q s (s q 8)) = (-1) then (R_X5_tellFaults_143 q ((itr (uc2 (B_X5_tellFaults_74 q a1)) BIG (0, (D_X0_add q s 2 (s q 8) (-1) (-1)))).2)) else (R_X5_tellFaults_143 q ((itr (uc2 (B_X5_tellFaults_74 q a1)) BIG (0, s)).2)))
theorem r_X5_tellFaults_43 (hP : WOK b w H0) {q : Nat} (hq : q = 38 ∨ q = 60) {s : Sg} {a1 : Int32} (hN : NN s) : Rx sc g_X5_tellFaults 3 ((43, [(0, .ref (b + q)), (1, .int a1)], [])) (wd b w wl H0 s, kn) none (wd b w wl H0 (R_X5_tellFaults_43 q s a1), kn) := by
  show Rx sc g_X5_tellFaults 3 (43, [(0, .ref (b + q)), (1, .int a1)], []) (wd b w wl H0 s, kn) none (wd b w wl H0 (R_X5_tellFaults_43 q s a1), kn)
  refine rx_k 1 (44, [(0, .ref (b + q)), (1, .int a1)], [.ref (b + q)]) (fun _ _ => rfl) ?_
  refine rx_getf rfl rfl (wl_0 hP hq) rfl ?_
  refine rx_k 1 (48, [(0, .ref (b + q)), (1, .int a1)], [.ref (b + q), .ref (b + (q + 5))]) (fun _ _ => rfl) ?_
  refine rx_getf rfl rfl (wl_0 hP hq) rfl ?_
  refine rx_inv rfl rfl (rc_X9_kind hP hq) rfl rfl rfl (q_recv (wl_5 hP hq)) rfl rfl ?_
  refine rx_k 1 (55, [(0, .ref (b + q)), (1, .int a1)], [.int (-1), .int (D_X9_kind q s (s q 8))]) (fun _ _ => rfl) ?_
  by_cases c0 : (D_X9_kind q s (s q 8)) = (-1)
  · refine rx_icF rfl (nf c0) rfl ?_
    refine rx_k 1 (59, [(0, .ref (b + q)), (1, .int a1)], [.ref (b + q)]) (fun _ _ => rfl) ?_
    refine rx_getf rfl rfl (wl_0 hP hq) rfl ?_
    refine rx_k 2 (64, [(0, .ref (b + q)), (1, .int a1)], [.ref (b + q), .int 2, .ref (b + (q + 1))]) (fun _ _ => rfl) ?_
    refine rx_getf rfl rfl (wl_0 hP hq) rfl ?_
    refine rx_k 2 (69, [(0, .ref (b + q)), (1, .int a1)], [.int (-1), .int (-1), .int (s q 8), .int 2, .ref (b + (q + 1))]) (fun _ _ => rfl) ?_
    refine rx_inv rfl rfl (rc_X0_add hP hq hN) rfl rfl rfl (q_recv (wl_1 hP hq)) rfl rfl ?_
    refine rx_k 2 (74, [(2, .int 0), (0, .ref (b + q)), (1, .int a1)], []) (fun _ _ => rfl) ?_
    refine rx_lo am_X5_tellFaults (lo := [(0, .ref (b + q)), (1, .int a1), (2, .int 0)]) (List.forall_mem_cons.mpr ⟨List.mem_of_getElem? (i := 1) rfl, (List.forall_mem_cons.mpr ⟨List.mem_of_getElem? (i := 2) rfl, (List.forall_mem_cons.mpr ⟨List.mem_of_getElem? (i := 0) rfl, (fun _ h => absurd h List.not_mem_nil)⟩)⟩)⟩) rfl ?_
    refine rx_loop2s (B := B_X5_tellFaults_74 q a1) (fr := (fr_X5_tellFaults_74 b w q a1)) (E := (fe_X5_tellFaults_74 b w q a1)) (I := fun z2 zs => NN zs) (fun z2 zs oo hh9 hI9 hv9 hc9 he9 => b_X5_tellFaults_74 hP hq oo hh9 hI9 hv9 hc9 he9) (fun z2 zs hz => nb_X5_tellFaults_74 hq hz) BIG 0 (D_X0_add q s 2 (s q 8) (-1) (-1)) _ _ (nn_X0_add hq hN) (by decide : (0 : Int) ≤ (0 : Int32).toInt) (le_enough (by decide : (0 : Int) ≤ (0 : Int32).toInt)) ?_
    rw [(show (R_X5_tellFaults_43 q s a1) = (R_X5_tellFaults_143 q ((itr (uc2 (B_X5_tellFaults_74 q a1)) BIG (0, (D_X0_add q s 2 (s q 8) (-1) (-1)))).2)) from ((if_pos c0).trans rfl))]
    exact r_X5_tellFaults_143 hP hq (itr_inv2 (B := B_X5_tellFaults_74 q a1) (I := fun z2 zs => NN zs) (fun z2 zs hz => nb_X5_tellFaults_74 hq hz) BIG 0 (D_X0_add q s 2 (s q 8) (-1) (-1)) (nn_X0_add hq hN))
  · refine rx_icT rfl (nt c0) ?_
    refine rx_k 2 (74, [(2, .int 0), (0, .ref (b + q)), (1, .int a1)], []) (fun _ _ => rfl) ?_
    refine rx_lo am_X5_tellFaults (lo := [(0, .ref (b + q)), (1, .int a1), (2, .int 0)]) (List.forall_mem_cons.mpr ⟨List.mem_of_getElem? (i := 1) rfl, (List.forall_mem_cons.mpr ⟨List.mem_of_getElem? (i := 2) rfl, (List.forall_mem_cons.mpr ⟨List.mem_of_getElem? (i := 0) rfl, (fun _ h => absurd h List.not_mem_nil)⟩)⟩)⟩) rfl ?_
    refine rx_loop2s (B := B_X5_tellFaults_74 q a1) (fr := (fr_X5_tellFaults_74 b w q a1)) (E := (fe_X5_tellFaults_74 b w q a1)) (I := fun z2 zs => NN zs) (fun z2 zs oo hh9 hI9 hv9 hc9 he9 => b_X5_tellFaults_74 hP hq oo hh9 hI9 hv9 hc9 he9) (fun z2 zs hz => nb_X5_tellFaults_74 hq hz) BIG 0 s _ _ hN (by decide : (0 : Int) ≤ (0 : Int32).toInt) (le_enough (by decide : (0 : Int) ≤ (0 : Int32).toInt)) ?_
    rw [(show (R_X5_tellFaults_43 q s a1) = (R_X5_tellFaults_143 q ((itr (uc2 (B_X5_tellFaults_74 q a1)) BIG (0, s)).2)) from ((if_neg c0).trans rfl))]
    exact r_X5_tellFaults_143 hP hq (itr_inv2 (B := B_X5_tellFaults_74 q a1) (I := fun z2 zs => NN zs) (fun z2 zs hz => nb_X5_tellFaults_74 hq hz) BIG 0 s hN)
theorem nr_X5_tellFaults_43 {q : Nat} (hq : q = 38 ∨ q = 60) {s : Sg} {a1 : Int32} (hN : NN s) : NN ((R_X5_tellFaults_43 q s a1)) := by
  by_cases c0 : (D_X9_kind q s (s q 8)) = (-1)
  · rw [show (R_X5_tellFaults_43 q s a1) = (R_X5_tellFaults_143 q ((itr (uc2 (B_X5_tellFaults_74 q a1)) BIG (0, (D_X0_add q s 2 (s q 8) (-1) (-1)))).2)) from ((if_pos c0).trans rfl)]
    exact (nr_X5_tellFaults_143 hq (itr_inv2 (B := B_X5_tellFaults_74 q a1) (I := fun z2 zs => NN zs) (fun z2 zs hz => nb_X5_tellFaults_74 hq hz) BIG 0 (D_X0_add q s 2 (s q 8) (-1) (-1)) (nn_X0_add hq hN)))
  · rw [show (R_X5_tellFaults_43 q s a1) = (R_X5_tellFaults_143 q ((itr (uc2 (B_X5_tellFaults_74 q a1)) BIG (0, s)).2)) from ((if_neg c0).trans rfl)]
    exact (nr_X5_tellFaults_143 hq (itr_inv2 (B := B_X5_tellFaults_74 q a1) (I := fun z2 zs => NN zs) (fun z2 zs hz => nb_X5_tellFaults_74 hq hz) BIG 0 s hN))
noncomputable def D_X5_tellFaults (q : Nat) (s : Sg) (a1 : Int32) : Sg := (R_X5_tellFaults_43 q ((itr (uc2 (B_X5_tellFaults_9 q a1)) BIG (0, (D_X0_forget q s))).2) a1)
theorem m_X5_tellFaults (hP : WOK b w H0) {q : Nat} (hq : q = 38 ∨ q = 60) {s : Sg} {a1 : Int32} (hN : NN s) : Rx sc g_X5_tellFaults 3 ((0, [(0, .ref (b + q)), (1, .int a1)], [])) (wd b w wl H0 s, kn) none (wd b w wl H0 (D_X5_tellFaults q s a1), kn) := by
  show Rx sc g_X5_tellFaults 3 (0, [(0, .ref (b + q)), (1, .int a1)], []) (wd b w wl H0 s, kn) none (wd b w wl H0 (D_X5_tellFaults q s a1), kn)
  refine rx_k 1 (1, [(0, .ref (b + q)), (1, .int a1)], [.ref (b + q)]) (fun _ _ => rfl) ?_
  refine rx_getf rfl rfl (wl_0 hP hq) rfl ?_
  refine rx_inv rfl rfl (rc_X0_forget hP hq hN) rfl rfl rfl (q_recv (wl_1 hP hq)) rfl rfl ?_
  refine rx_k 2 (9, [(2, .int 0), (0, .ref (b + q)), (1, .int a1)], []) (fun _ _ => rfl) ?_
  refine rx_lo am_X5_tellFaults (lo := [(0, .ref (b + q)), (1, .int a1), (2, .int 0)]) (List.forall_mem_cons.mpr ⟨List.mem_of_getElem? (i := 1) rfl, (List.forall_mem_cons.mpr ⟨List.mem_of_getElem? (i := 2) rfl, (List.forall_mem_cons.mpr ⟨List.mem_of_getElem? (i := 0) rfl, (fun _ h => absurd h List.not_mem_nil)⟩)⟩)⟩) rfl ?_
  refine rx_loop2s (B := B_X5_tellFaults_9 q a1) (fr := (fr_X5_tellFaults_9 b w q a1)) (E := (fe_X5_tellFaults_9 b w q a1)) (I := fun z2 zs => NN zs) (fun z2 zs oo hh9 hI9 hv9 hc9 he9 => b_X5_tellFaults_9 hP hq oo hh9 hI9 hv9 hc9 he9) (fun z2 zs hz => nb_X5_tellFaults_9 hq hz) BIG 0 (D_X0_forget q s) _ _ (nn_X0_forget hq hN) (by decide : (0 : Int) ≤ (0 : Int32).toInt) (le_enough (by decide : (0 : Int) ≤ (0 : Int32).toInt)) ?_
  rw [(show (D_X5_tellFaults q s a1) = (R_X5_tellFaults_43 q ((itr (uc2 (B_X5_tellFaults_9 q a1)) BIG (0, (D_X0_forget q s))).2) a1) from rfl)]
  exact r_X5_tellFaults_43 hP hq (itr_inv2 (B := B_X5_tellFaults_9 q a1) (I := fun z2 zs => NN zs) (fun z2 zs hz => nb_X5_tellFaults_9 hq hz) BIG 0 (D_X0_forget q s) (nn_X0_forget hq hN))
theorem rc_X5_tellFaults (hP : WOK b w H0) {q : Nat} (hq : q = 38 ∨ q = 60) {s : Sg} {a1 : Int32} (hN : NN s) : Rc sc 4 81 [.ref (b + q), .int a1] (wd b w wl H0 s, kn) none (wd b w wl H0 (D_X5_tellFaults q s a1), kn) := rx_mc (m_X5_tellFaults hP hq hN) rfl rfl (Nat.ble_eq_true_of_le (Nat.le_refl _)) (Nat.ble_eq_true_of_le (Nat.le_refl _))
theorem nn_X5_tellFaults {q : Nat} (hq : q = 38 ∨ q = 60) {s : Sg} {a1 : Int32} (hN : NN s) : NN (D_X5_tellFaults q s a1) := by
  rw [show (D_X5_tellFaults q s a1) = (R_X5_tellFaults_43 q ((itr (uc2 (B_X5_tellFaults_9 q a1)) BIG (0, (D_X0_forget q s))).2) a1) from rfl]
  exact (nr_X5_tellFaults_43 hq (itr_inv2 (B := B_X5_tellFaults_9 q a1) (I := fun z2 zs => NN zs) (fun z2 zs hz => nb_X5_tellFaults_9 hq hz) BIG 0 (D_X0_forget q s) (nn_X0_forget hq hN)))
theorem fwb_X5_tellFaults_9 {q : Nat} {a1 : Int32} {x2 : Int32} {s : Sg} {k j : Nat} (l1f1 : k ≠ q + 1 ∨ j ≠ 1) (l2 : k ≠ q + 2) : ∃ (f : Bool) (t2 : Int32) (ts : Sg), (B_X5_tellFaults_9 q a1 x2 s) = (f, (t2, ts)) ∧ ts k j = s k j := by
  by_cases c0 : 20 ≤ x2
  · exact ⟨_, _, _, (show (B_X5_tellFaults_9 q a1 x2 s) = (false, (x2, s)) from ((if_pos c0).trans rfl)), rfl⟩
  · by_cases c1 : (D_X9_isTwiceStrong q s x2) = 0
    · exact ⟨_, _, _, (show (B_X5_tellFaults_9 q a1 x2 s) = (true, ((x2 + 1), s)) from ((if_neg c0).trans ((if_pos c1).trans rfl))), rfl⟩
    · exact ⟨_, _, _, (show (B_X5_tellFaults_9 q a1 x2 s) = (true, ((x2 + 1), (D_X0_add q s 1 x2 (-1) (-1)))) from ((if_neg c0).trans ((if_neg c1).trans rfl))), ((fw_X0_add l1f1 l2).trans rfl)⟩
theorem fwb_X5_tellFaults_97 {q : Nat} {a1 : Int32} {a2 : Int32} {a3 : Int32} {x4 : Int32} {s : Sg} {k j : Nat} (l1f1 : k ≠ q + 1 ∨ j ≠ 1) (l2 : k ≠ q + 2) : ∃ (f : Bool) (t4 : Int32) (ts : Sg), (B_X5_tellFaults_97 q a1 a2 a3 x4 s) = (f, (t4, ts)) ∧ ts k j = s k j := by
  by_cases c0 : (D_X8_pieces s a3) ≤ x4
  · exact ⟨_, _, _, (show (B_X5_tellFaults_97 q a1 a2 a3 x4 s) = (false, (x4, s)) from ((if_pos c0).trans rfl)), rfl⟩
  · by_cases c1 : (D_X8_isReference s a3 x4) = 0
    · exact ⟨_, _, _, (show (B_X5_tellFaults_97 q a1 a2 a3 x4 s) = (true, ((x4 + 1), s)) from ((if_neg c0).trans ((if_pos c1).trans rfl))), rfl⟩
    · exact ⟨_, _, _, (show (B_X5_tellFaults_97 q a1 a2 a3 x4 s) = (true, ((x4 + 1), (D_X5_tellFaultsOf q s a3 x4 a1))) from ((if_neg c0).trans ((if_neg c1).trans rfl))), ((fw_X5_tellFaultsOf l1f1 l2).trans rfl)⟩
theorem fwr_X5_tellFaults_137 {q : Nat} {s : Sg} {a1 : Int32} {a2 : Int32} {k j : Nat} (l1f1 : k ≠ q + 1 ∨ j ≠ 1) (l2 : k ≠ q + 2) : ∃ (f : Bool) (t2 : Int32) (ts : Sg), (R_X5_tellFaults_137 q s a1 a2) = (f, (t2, ts)) ∧ ts k j = s k j := by
  exact ⟨_, _, _, (show (R_X5_tellFaults_137 q s a1 a2) = (true, ((a2 + 1), s)) from rfl), rfl⟩
theorem fwb_X5_tellFaults_74 {q : Nat} {a1 : Int32} {x2 : Int32} {s : Sg} {k j : Nat} (l1f1 : k ≠ q + 1 ∨ j ≠ 1) (l2 : k ≠ q + 2) : ∃ (f : Bool) (t2 : Int32) (ts : Sg), (B_X5_tellFaults_74 q a1 x2 s) = (f, (t2, ts)) ∧ ts k j = s k j := by
  by_cases c0 : (D_X3_laid q s) ≤ x2
  · exact ⟨_, _, _, (show (B_X5_tellFaults_74 q a1 x2 s) = (false, (x2, s)) from ((if_pos c0).trans rfl)), rfl⟩
  · rw [show (B_X5_tellFaults_74 q a1 x2 s) = (R_X5_tellFaults_137 q ((itr (uc2 (B_X5_tellFaults_97 q a1 x2 (D_X3_sectionAt q s x2))) BIG (0, s)).2) a1 x2) from ((if_neg c0).trans rfl)]
    exact (exq2t (fwr_X5_tellFaults_137 l1f1 l2) ((itr_inv2 (B := B_X5_tellFaults_97 q a1 x2 (D_X3_sectionAt q s x2)) (I := fun z4 zs => zs k j = s k j) (fun z4 zs hz => exq2 (fwb_X5_tellFaults_97 l1f1 l2) hz) BIG 0 s rfl).trans rfl))
theorem fwr_X5_tellFaults_143 {q : Nat} {s : Sg} {k j : Nat} (l1f1 : k ≠ q + 1 ∨ j ≠ 1) (l2 : k ≠ q + 2) : (R_X5_tellFaults_143 q s) k j = s k j := by
  rw [show (R_X5_tellFaults_143 q s) = s from rfl]
  first | done | exact rfl
theorem fwr_X5_tellFaults_43 {q : Nat} {s : Sg} {a1 : Int32} {k j : Nat} (l1f1 : k ≠ q + 1 ∨ j ≠ 1) (l2 : k ≠ q + 2) : (R_X5_tellFaults_43 q s a1) k j = s k j := by
  by_cases c0 : (D_X9_kind q s (s q 8)) = (-1)
  · rw [show (R_X5_tellFaults_43 q s a1) = (R_X5_tellFaults_143 q ((itr (uc2 (B_X5_tellFaults_74 q a1)) BIG (0, (D_X0_add q s 2 (s q 8) (-1) (-1)))).2)) from ((if_pos c0).trans rfl)]
    first | done | exact ((fwr_X5_tellFaults_143 l1f1 l2).trans ((itr_inv2 (B := B_X5_tellFaults_74 q a1) (I := fun z2 zs => zs k j = (D_X0_add q s 2 (s q 8) (-1) (-1)) k j) (fun z2 zs hz => exq2 (fwb_X5_tellFaults_74 l1f1 l2) hz) BIG 0 (D_X0_add q s 2 (s q 8) (-1) (-1)) rfl).trans ((fw_X0_add l1f1 l2).trans rfl)))
  · rw [show (R_X5_tellFaults_43 q s a1) = (R_X5_tellFaults_143 q ((itr (uc2 (B_X5_tellFaults_74 q a1)) BIG (0, s)).2)) from ((if_neg c0).trans rfl)]
    first | done | exact ((fwr_X5_tellFaults_143 l1f1 l2).trans ((itr_inv2 (B := B_X5_tellFaults_74 q a1) (I := fun z2 zs => zs k j = s k j) (fun z2 zs hz => exq2 (fwb_X5_tellFaults_74 l1f1 l2) hz) BIG 0 s rfl).trans rfl))
theorem fw_X5_tellFaults {q : Nat} {s : Sg} {a1 : Int32} {k j : Nat} (l1f1 : k ≠ q + 1 ∨ j ≠ 1) (l2 : k ≠ q + 2) : (D_X5_tellFaults q s a1) k j = s k j := by
  rw [show (D_X5_tellFaults q s a1) = (R_X5_tellFaults_43 q ((itr (uc2 (B_X5_tellFaults_9 q a1)) BIG (0, (D_X0_forget q s))).2) a1) from rfl]
  first | done | exact ((fwr_X5_tellFaults_43 l1f1 l2).trans ((itr_inv2 (B := B_X5_tellFaults_9 q a1) (I := fun z2 zs => zs k j = (D_X0_forget q s) k j) (fun z2 zs hz => exq2 (fwb_X5_tellFaults_9 l1f1 l2) hz) BIG 0 (D_X0_forget q s) rfl).trans ((fw_X0_forget l1f1).trans rfl)))
-- LinkHarbour$Link.run
noncomputable def D_X5_run (q : Nat) (s : Sg) (a1 : Int32) (a2 : Int32) (a3 : Int32) (a4 : Int32) (a5 : Int32) : Sg := (D_X5_tellFaults q (D_X3_layOut q (D_X7_reachAll q (D_X9_settle q (D_X10_take q (up (up (up s q 8 a1) q 7 a2) q 6 1) a1 a5)) a1 a2) a3) a4)
theorem m_X5_run (hP : WOK b w H0) {q : Nat} (hq : q = 38 ∨ q = 60) {s : Sg} {a1 : Int32} {a2 : Int32} {a3 : Int32} {a4 : Int32} {a5 : Int32} (hN : NN s) (za2 : bz a2 = true) : Rx sc g_X5_run 5 ((0, [(0, .ref (b + q)), (1, .int a1), (2, .int a2), (3, .int a3), (4, .int a4), (5, .int a5)], [])) (wd b w wl H0 s, kn) none (wd b w wl H0 (D_X5_run q s a1 a2 a3 a4 a5), kn) := by
  show Rx sc g_X5_run 5 (0, [(0, .ref (b + q)), (1, .int a1), (2, .int a2), (3, .int a3), (4, .int a4), (5, .int a5)], []) (wd b w wl H0 s, kn) none (wd b w wl H0 (D_X5_run q s a1 a2 a3 a4 a5), kn)
  refine rx_k 2 (2, [(0, .ref (b + q)), (1, .int a1), (2, .int a2), (3, .int a3), (4, .int a4), (5, .int a5)], [.int a1, .ref (b + q)]) (fun _ _ => rfl) ?_
  refine rx_putf rfl rfl (wl_0 hP hq) rfl (wz_0_8 hP hq) ?_
  refine rx_k 2 (7, [(0, .ref (b + q)), (1, .int a1), (2, .int a2), (3, .int a3), (4, .int a4), (5, .int a5)], [.int a2, .ref (b + q)]) (fun _ _ => rfl) ?_
  refine rx_putf rfl rfl (wl_0 hP hq) (fitz za2) ((wz_0_7 hP hq) za2) ?_
  refine rx_k 2 (12, [(0, .ref (b + q)), (1, .int a1), (2, .int a2), (3, .int a3), (4, .int a4), (5, .int a5)], [.int 1, .ref (b + q)]) (fun _ _ => rfl) ?_
  refine rx_putf rfl rfl (wl_0 hP hq) rfl ((wz_0_6 hP hq) rfl) ?_
  refine rx_k 1 (16, [(0, .ref (b + q)), (1, .int a1), (2, .int a2), (3, .int a3), (4, .int a4), (5, .int a5)], [.ref (b + q)]) (fun _ _ => rfl) ?_
  refine rx_getf rfl rfl (wl_0 hP hq) rfl ?_
  refine rx_k 2 (22, [(0, .ref (b + q)), (1, .int a1), (2, .int a2), (3, .int a3), (4, .int a4), (5, .int a5)], [.int a5, .int a1, .ref (b + (q + 3))]) (fun _ _ => rfl) ?_
  refine rx_inv rfl rfl (rc_X10_take hP hq (nn_0 (by rcases hq with rfl | rfl <;> rfl) (nn_0 (by rcases hq with rfl | rfl <;> rfl) (nn_0 (by rcases hq with rfl | rfl <;> rfl) hN)))) rfl rfl rfl (q_recv (wl_3 hP hq)) rfl rfl ?_
  refine rx_k 1 (26, [(0, .ref (b + q)), (1, .int a1), (2, .int a2), (3, .int a3), (4, .int a4), (5, .int a5)], [.ref (b + q)]) (fun _ _ => rfl) ?_
  refine rx_getf rfl rfl (wl_0 hP hq) rfl ?_
  refine rx_inv rfl rfl (rc_X9_settle hP hq (nn_X10_take hq (nn_0 (by rcases hq with rfl | rfl <;> rfl) (nn_0 (by rcases hq with rfl | rfl <;> rfl) (nn_0 (by rcases hq with rfl | rfl <;> rfl) hN))))) rfl rfl rfl (q_recv (wl_5 hP hq)) rfl rfl ?_
  refine rx_k 1 (33, [(0, .ref (b + q)), (1, .int a1), (2, .int a2), (3, .int a3), (4, .int a4), (5, .int a5)], [.ref (b + q)]) (fun _ _ => rfl) ?_
  refine rx_getf rfl rfl (wl_0 hP hq) rfl ?_
  refine rx_k 2 (38, [(0, .ref (b + q)), (1, .int a1), (2, .int a2), (3, .int a3), (4, .int a4), (5, .int a5)], [.int a2, .int a1, .ref (b + (q + 12))]) (fun _ _ => rfl) ?_
  refine rx_inv rfl rfl (rc_X7_reachAll hP hq (nn_X9_settle hq (nn_X10_take hq (nn_0 (by rcases hq with rfl | rfl <;> rfl) (nn_0 (by rcases hq with rfl | rfl <;> rfl) (nn_0 (by rcases hq with rfl | rfl <;> rfl) hN))))) za2) rfl rfl rfl (q_recv (wl_12 hP hq)) rfl rfl ?_
  refine rx_k 1 (42, [(0, .ref (b + q)), (1, .int a1), (2, .int a2), (3, .int a3), (4, .int a4), (5, .int a5)], [.ref (b + q)]) (fun _ _ => rfl) ?_
  refine rx_getf rfl rfl (wl_0 hP hq) rfl ?_
  refine rx_k 1 (46, [(0, .ref (b + q)), (1, .int a1), (2, .int a2), (3, .int a3), (4, .int a4), (5, .int a5)], [.int a3, .ref (b + (q + 15))]) (fun _ _ => rfl) ?_
  refine rx_inv rfl rfl (rc_X3_layOut hP hq (nn_X7_reachAll hq (nn_X9_settle hq (nn_X10_take hq (nn_0 (by rcases hq with rfl | rfl <;> rfl) (nn_0 (by rcases hq with rfl | rfl <;> rfl) (nn_0 (by rcases hq with rfl | rfl <;> rfl) hN))))))) rfl rfl rfl (q_recv (wl_15 hP hq)) rfl rfl ?_
  refine rx_k 2 (52, [(0, .ref (b + q)), (1, .int a1), (2, .int a2), (3, .int a3), (4, .int a4), (5, .int a5)], [.int a4, .ref (b + q)]) (fun _ _ => rfl) ?_
  refine rx_inv rfl rfl (rc_X5_tellFaults hP hq (nn_X3_layOut hq (nn_X7_reachAll hq (nn_X9_settle hq (nn_X10_take hq (nn_0 (by rcases hq with rfl | rfl <;> rfl) (nn_0 (by rcases hq with rfl | rfl <;> rfl) (nn_0 (by rcases hq with rfl | rfl <;> rfl) hN)))))))) rfl rfl rfl (q_recv (wl_0 hP hq)) rfl rfl ?_
  rw [(show (D_X5_run q s a1 a2 a3 a4 a5) = (D_X5_tellFaults q (D_X3_layOut q (D_X7_reachAll q (D_X9_settle q (D_X10_take q (up (up (up s q 8 a1) q 7 a2) q 6 1) a1 a5)) a1 a2) a3) a4) from rfl)]
  exact rx_rv rfl
theorem rc_X5_run (hP : WOK b w H0) {q : Nat} (hq : q = 38 ∨ q = 60) {s : Sg} {a1 : Int32} {a2 : Int32} {a3 : Int32} {a4 : Int32} {a5 : Int32} (hN : NN s) (za2 : bz a2 = true) : Rc sc 6 80 [.ref (b + q), .int a1, .int a2, .int a3, .int a4, .int a5] (wd b w wl H0 s, kn) none (wd b w wl H0 (D_X5_run q s a1 a2 a3 a4 a5), kn) := rx_mc (m_X5_run hP hq hN za2) rfl rfl (Nat.ble_eq_true_of_le (Nat.le_refl _)) (Nat.ble_eq_true_of_le (Nat.le_refl _))
theorem nn_X5_run {q : Nat} (hq : q = 38 ∨ q = 60) {s : Sg} {a1 : Int32} {a2 : Int32} {a3 : Int32} {a4 : Int32} {a5 : Int32} (hN : NN s) : NN (D_X5_run q s a1 a2 a3 a4 a5) := by
  rw [show (D_X5_run q s a1 a2 a3 a4 a5) = (D_X5_tellFaults q (D_X3_layOut q (D_X7_reachAll q (D_X9_settle q (D_X10_take q (up (up (up s q 8 a1) q 7 a2) q 6 1) a1 a5)) a1 a2) a3) a4) from rfl]
  exact (nn_X5_tellFaults hq (nn_X3_layOut hq (nn_X7_reachAll hq (nn_X9_settle hq (nn_X10_take hq (nn_0 (by rcases hq with rfl | rfl <;> rfl) (nn_0 (by rcases hq with rfl | rfl <;> rfl) (nn_0 (by rcases hq with rfl | rfl <;> rfl) hN))))))))
theorem fw_X5_run {q : Nat} {s : Sg} {a1 : Int32} {a2 : Int32} {a3 : Int32} {a4 : Int32} {a5 : Int32} {k j : Nat} (l0f6 : k ≠ q ∨ j ≠ 6) (l0f7 : k ≠ q ∨ j ≠ 7) (l0f8 : k ≠ q ∨ j ≠ 8) (l1f1 : k ≠ q + 1 ∨ j ≠ 1) (l2 : k ≠ q + 2) (l3f3 : k ≠ q + 3 ∨ j ≠ 3) (l3f4 : k ≠ q + 3 ∨ j ≠ 4) (l3f5 : k ≠ q + 3 ∨ j ≠ 5) (l3f6 : k ≠ q + 3 ∨ j ≠ 6) (l4 : k ≠ q + 4) (l5f8 : k ≠ q + 5 ∨ j ≠ 8) (l5f9 : k ≠ q + 5 ∨ j ≠ 9) (l6 : k ≠ q + 6) (l7 : k ≠ q + 7) (l8 : k ≠ q + 8) (l9 : k ≠ q + 9) (l10 : k ≠ q + 10) (l11 : k ≠ q + 11) (l12f4 : k ≠ q + 12 ∨ j ≠ 4) (l12f5 : k ≠ q + 12 ∨ j ≠ 5) (l12f6 : k ≠ q + 12 ∨ j ≠ 6) (l12f7 : k ≠ q + 12 ∨ j ≠ 7) (l13 : k ≠ q + 13) (l14 : k ≠ q + 14) (l15f5 : k ≠ q + 15 ∨ j ≠ 5) (l15f11 : k ≠ q + 15 ∨ j ≠ 11) (l15f12 : k ≠ q + 15 ∨ j ≠ 12) (l16 : k ≠ q + 16) (l17 : k ≠ q + 17) (l18 : k ≠ q + 18) (l19 : k ≠ q + 19) (l20 : k ≠ q + 20) (l21 : k ≠ q + 21) : (D_X5_run q s a1 a2 a3 a4 a5) k j = s k j := by
  rw [show (D_X5_run q s a1 a2 a3 a4 a5) = (D_X5_tellFaults q (D_X3_layOut q (D_X7_reachAll q (D_X9_settle q (D_X10_take q (up (up (up s q 8 a1) q 7 a2) q 6 1) a1 a5)) a1 a2) a3) a4) from rfl]
  first | done | exact ((fw_X5_tellFaults l1f1 l2).trans ((fw_X3_layOut l15f5 l15f11 l15f12 l16 l17 l18 l19 l20 l21).trans ((fw_X7_reachAll l12f4 l12f5 l12f6 l12f7 l13 l14).trans ((fw_X9_settle l5f8 l5f9 l6 l7 l8 l9 l10 l11).trans ((fw_X10_take l3f3 l3f4 l3f5 l3f6 l4).trans ((up_f l0f6).trans ((up_f l0f7).trans ((up_f l0f8).trans rfl))))))))
-- LinkHarbour$Link.writePiece
noncomputable def D_X5_writePiece (q : Nat) (wl : Nat) (s : Sg) (a2 : Int32) (a3 : Int32) (a4 : Int32) : Sg := (if (D_X8_isReference s a3 a4) = 0 then s else (if (D_X8_kind s a3 a4) = 1 then (D_X1_put wl s a2 ((D_X3_standsFor q s (D_X8_name s a3 a4)) + (D_X8_added s a3 a4))) else (if (D_X3_width q s a3 a4) = 2 then (D_X1_put wl (D_X1_put wl s a2 (-1)) (a2 + 1) (((D_X3_standsFor q s (D_X8_name s a3 a4)) - a2) - 2)) else (D_X1_put wl (D_X1_put wl s a2 (-2)) (a2 + 1) (D_X3_standsFor q s (D_X8_name s a3 a4))))))
theorem m_X5_writePiece (hP : WOK b w H0) {q : Nat} (hq : q = 38 ∨ q = 60) (hW : wl < 2000000) {s : Sg} {a2 : Int32} {a3 : Int32} {a4 : Int32} (hN : NN s) : Rx sc g_X5_writePiece 3 ((0, [(0, .ref (b + q)), (1, .ref (b + 36)), (2, .int a2), (3, .int a3), (4, .int a4)], [])) (wd b w wl H0 s, kn) none (wd b w wl H0 (D_X5_writePiece q wl s a2 a3 a4), kn) := by
  show Rx sc g_X5_writePiece 3 (0, [(0, .ref (b + q)), (1, .ref (b + 36)), (2, .int a2), (3, .int a3), (4, .int a4)], []) (wd b w wl H0 s, kn) none (wd b w wl H0 (D_X5_writePiece q wl s a2 a3 a4), kn)
  refine rx_k 1 (1, [(0, .ref (b + q)), (1, .ref (b + 36)), (2, .int a2), (3, .int a3), (4, .int a4)], [.ref (b + q)]) (fun _ _ => rfl) ?_
  refine rx_getf rfl rfl (wl_0 hP hq) rfl ?_
  refine rx_k 2 (7, [(0, .ref (b + q)), (1, .ref (b + 36)), (2, .int a2), (3, .int a3), (4, .int a4)], [.int a4, .int a3, .ref (b + 11)]) (fun _ _ => rfl) ?_
  refine rx_inv rfl rfl (rc_X8_isReference hP) rfl rfl rfl (q_recv (wg_11 hP)) rfl rfl ?_
  by_cases c0 : (D_X8_isReference s a3 a4) = 0
  · refine rx_ifF rfl (nf c0) rfl ?_
    rw [(show (D_X5_writePiece q wl s a2 a3 a4) = s from ((if_pos c0).trans rfl))]
    exact rx_rv rfl
  · refine rx_ifT rfl (nt c0) ?_
    refine rx_k 1 (15, [(0, .ref (b + q)), (1, .ref (b + 36)), (2, .int a2), (3, .int a3), (4, .int a4)], [.ref (b + q)]) (fun _ _ => rfl) ?_
    refine rx_getf rfl rfl (wl_0 hP hq) rfl ?_
    refine rx_k 1 (19, [(0, .ref (b + q)), (1, .ref (b + 36)), (2, .int a2), (3, .int a3), (4, .int a4)], [.ref (b + q), .ref (b + (q + 15))]) (fun _ _ => rfl) ?_
    refine rx_getf rfl rfl (wl_0 hP hq) rfl ?_
    refine rx_k 2 (25, [(0, .ref (b + q)), (1, .ref (b + 36)), (2, .int a2), (3, .int a3), (4, .int a4)], [.int a4, .int a3, .ref (b + 11), .ref (b + (q + 15))]) (fun _ _ => rfl) ?_
    refine rx_inv rfl rfl (rc_X8_name hP) rfl rfl rfl (q_recv (wg_11 hP)) rfl rfl ?_
    refine rx_inv rfl rfl (rc_X3_standsFor hP hq) rfl rfl rfl (q_recv (wl_15 hP hq)) rfl rfl ?_
    refine rx_k 2 (34, [(5, .int (D_X3_standsFor q s (D_X8_name s a3 a4))), (0, .ref (b + q)), (1, .ref (b + 36)), (2, .int a2), (3, .int a3), (4, .int a4)], [.ref (b + q)]) (fun _ _ => rfl) ?_
    refine rx_getf rfl rfl (wl_0 hP hq) rfl ?_
    refine rx_k 2 (40, [(5, .int (D_X3_standsFor q s (D_X8_name s a3 a4))), (0, .ref (b + q)), (1, .ref (b + 36)), (2, .int a2), (3, .int a3), (4, .int a4)], [.int a4, .int a3, .ref (b + 11)]) (fun _ _ => rfl) ?_
    refine rx_inv rfl rfl (rc_X8_kind hP) rfl rfl rfl (q_recv (wg_11 hP)) rfl rfl ?_
    refine rx_k 1 (44, [(5, .int (D_X3_standsFor q s (D_X8_name s a3 a4))), (0, .ref (b + q)), (1, .ref (b + 36)), (2, .int a2), (3, .int a3), (4, .int a4)], [.int 1, .int (D_X8_kind s a3 a4)]) (fun _ _ => rfl) ?_
    by_cases c1 : (D_X8_kind s a3 a4) = 1
    · refine rx_icF rfl (nf c1) rfl ?_
      refine rx_k 4 (52, [(5, .int (D_X3_standsFor q s (D_X8_name s a3 a4))), (0, .ref (b + q)), (1, .ref (b + 36)), (2, .int a2), (3, .int a3), (4, .int a4)], [.ref (b + q), .int (D_X3_standsFor q s (D_X8_name s a3 a4)), .int a2, .ref (b + 36)]) (fun _ _ => rfl) ?_
      refine rx_getf rfl rfl (wl_0 hP hq) rfl ?_
      refine rx_k 2 (58, [(5, .int (D_X3_standsFor q s (D_X8_name s a3 a4))), (0, .ref (b + q)), (1, .ref (b + 36)), (2, .int a2), (3, .int a3), (4, .int a4)], [.int a4, .int a3, .ref (b + 11), .int (D_X3_standsFor q s (D_X8_name s a3 a4)), .int a2, .ref (b + 36)]) (fun _ _ => rfl) ?_
      refine rx_inv rfl rfl (rc_X8_added hP) rfl rfl rfl (q_recv (wg_11 hP)) rfl rfl ?_
      refine rx_k 1 (62, [(5, .int (D_X3_standsFor q s (D_X8_name s a3 a4))), (0, .ref (b + q)), (1, .ref (b + 36)), (2, .int a2), (3, .int a3), (4, .int a4)], [.int ((D_X3_standsFor q s (D_X8_name s a3 a4)) + (D_X8_added s a3 a4)), .int a2, .ref (b + 36)]) (fun _ _ => rfl) ?_
      refine rx_inv rfl rfl (rc_X1_put hP hW hN) rfl rfl rfl (q_recv (wg_36 hP)) rfl rfl ?_
      refine rx_k 1 (120, [(5, .int (D_X3_standsFor q s (D_X8_name s a3 a4))), (0, .ref (b + q)), (1, .ref (b + 36)), (2, .int a2), (3, .int a3), (4, .int a4)], []) (fun _ _ => rfl) ?_
      rw [(show (D_X5_writePiece q wl s a2 a3 a4) = (D_X1_put wl s a2 ((D_X3_standsFor q s (D_X8_name s a3 a4)) + (D_X8_added s a3 a4))) from ((if_neg c0).trans ((if_pos c1).trans rfl)))]
      exact rx_rv rfl
    · refine rx_icT rfl (nt c1) ?_
      refine rx_k 1 (69, [(5, .int (D_X3_standsFor q s (D_X8_name s a3 a4))), (0, .ref (b + q)), (1, .ref (b + 36)), (2, .int a2), (3, .int a3), (4, .int a4)], [.ref (b + q)]) (fun _ _ => rfl) ?_
      refine rx_getf rfl rfl (wl_0 hP hq) rfl ?_
      refine rx_k 2 (75, [(5, .int (D_X3_standsFor q s (D_X8_name s a3 a4))), (0, .ref (b + q)), (1, .ref (b + 36)), (2, .int a2), (3, .int a3), (4, .int a4)], [.int a4, .int a3, .ref (b + (q + 15))]) (fun _ _ => rfl) ?_
      refine rx_inv rfl rfl (rc_X3_width hP hq) rfl rfl rfl (q_recv (wl_15 hP hq)) rfl rfl ?_
      refine rx_k 1 (79, [(5, .int (D_X3_standsFor q s (D_X8_name s a3 a4))), (0, .ref (b + q)), (1, .ref (b + 36)), (2, .int a2), (3, .int a3), (4, .int a4)], [.int 2, .int (D_X3_width q s a3 a4)]) (fun _ _ => rfl) ?_
      by_cases c2 : (D_X3_width q s a3 a4) = 2
      · refine rx_icF rfl (nf c2) rfl ?_
        refine rx_k 3 (85, [(5, .int (D_X3_standsFor q s (D_X8_name s a3 a4))), (0, .ref (b + q)), (1, .ref (b + 36)), (2, .int a2), (3, .int a3), (4, .int a4)], [.int (-1), .int a2, .ref (b + 36)]) (fun _ _ => rfl) ?_
        refine rx_inv rfl rfl (rc_X1_put hP hW hN) rfl rfl rfl (q_recv (wg_36 hP)) rfl rfl ?_
        refine rx_k 9 (98, [(5, .int (D_X3_standsFor q s (D_X8_name s a3 a4))), (0, .ref (b + q)), (1, .ref (b + 36)), (2, .int a2), (3, .int a3), (4, .int a4)], [.int (((D_X3_standsFor q s (D_X8_name s a3 a4)) - a2) - 2), .int (a2 + 1), .ref (b + 36)]) (fun _ _ => rfl) ?_
        refine rx_inv rfl rfl (rc_X1_put hP hW (nn_X1_put hN)) rfl rfl rfl (q_recv (wg_36 hP)) rfl rfl ?_
        refine rx_k 1 (120, [(5, .int (D_X3_standsFor q s (D_X8_name s a3 a4))), (0, .ref (b + q)), (1, .ref (b + 36)), (2, .int a2), (3, .int a3), (4, .int a4)], []) (fun _ _ => rfl) ?_
        rw [(show (D_X5_writePiece q wl s a2 a3 a4) = (D_X1_put wl (D_X1_put wl s a2 (-1)) (a2 + 1) (((D_X3_standsFor q s (D_X8_name s a3 a4)) - a2) - 2)) from ((if_neg c0).trans ((if_neg c1).trans ((if_pos c2).trans rfl))))]
        exact rx_rv rfl
      · refine rx_icT rfl (nt c2) ?_
        refine rx_k 3 (108, [(5, .int (D_X3_standsFor q s (D_X8_name s a3 a4))), (0, .ref (b + q)), (1, .ref (b + 36)), (2, .int a2), (3, .int a3), (4, .int a4)], [.int (-2), .int a2, .ref (b + 36)]) (fun _ _ => rfl) ?_
        refine rx_inv rfl rfl (rc_X1_put hP hW hN) rfl rfl rfl (q_recv (wg_36 hP)) rfl rfl ?_
        refine rx_k 5 (117, [(5, .int (D_X3_standsFor q s (D_X8_name s a3 a4))), (0, .ref (b + q)), (1, .ref (b + 36)), (2, .int a2), (3, .int a3), (4, .int a4)], [.int (D_X3_standsFor q s (D_X8_name s a3 a4)), .int (a2 + 1), .ref (b + 36)]) (fun _ _ => rfl) ?_
        refine rx_inv rfl rfl (rc_X1_put hP hW (nn_X1_put hN)) rfl rfl rfl (q_recv (wg_36 hP)) rfl rfl ?_
        rw [(show (D_X5_writePiece q wl s a2 a3 a4) = (D_X1_put wl (D_X1_put wl s a2 (-2)) (a2 + 1) (D_X3_standsFor q s (D_X8_name s a3 a4))) from ((if_neg c0).trans ((if_neg c1).trans ((if_neg c2).trans rfl))))]
        exact rx_rv rfl
theorem rc_X5_writePiece (hP : WOK b w H0) {q : Nat} (hq : q = 38 ∨ q = 60) (hW : wl < 2000000) {s : Sg} {a2 : Int32} {a3 : Int32} {a4 : Int32} (hN : NN s) : Rc sc 4 84 [.ref (b + q), .ref (b + 36), .int a2, .int a3, .int a4] (wd b w wl H0 s, kn) none (wd b w wl H0 (D_X5_writePiece q wl s a2 a3 a4), kn) := rx_mc (m_X5_writePiece hP hq hW hN) rfl rfl (Nat.ble_eq_true_of_le (Nat.le_refl _)) (Nat.ble_eq_true_of_le (Nat.le_refl _))
theorem nn_X5_writePiece {q : Nat} (hq : q = 38 ∨ q = 60) {wl : Nat} {s : Sg} {a2 : Int32} {a3 : Int32} {a4 : Int32} (hN : NN s) : NN (D_X5_writePiece q wl s a2 a3 a4) := by
  by_cases c0 : (D_X8_isReference s a3 a4) = 0
  · rw [show (D_X5_writePiece q wl s a2 a3 a4) = s from ((if_pos c0).trans rfl)]
    exact hN
  · by_cases c1 : (D_X8_kind s a3 a4) = 1
    · rw [show (D_X5_writePiece q wl s a2 a3 a4) = (D_X1_put wl s a2 ((D_X3_standsFor q s (D_X8_name s a3 a4)) + (D_X8_added s a3 a4))) from ((if_neg c0).trans ((if_pos c1).trans rfl))]
      exact (nn_X1_put hN)
    · by_cases c2 : (D_X3_width q s a3 a4) = 2
      · rw [show (D_X5_writePiece q wl s a2 a3 a4) = (D_X1_put wl (D_X1_put wl s a2 (-1)) (a2 + 1) (((D_X3_standsFor q s (D_X8_name s a3 a4)) - a2) - 2)) from ((if_neg c0).trans ((if_neg c1).trans ((if_pos c2).trans rfl)))]
        exact (nn_X1_put (nn_X1_put hN))
      · rw [show (D_X5_writePiece q wl s a2 a3 a4) = (D_X1_put wl (D_X1_put wl s a2 (-2)) (a2 + 1) (D_X3_standsFor q s (D_X8_name s a3 a4))) from ((if_neg c0).trans ((if_neg c1).trans ((if_neg c2).trans rfl)))]
        exact (nn_X1_put (nn_X1_put hN))
theorem fw_X5_writePiece {q : Nat} {wl : Nat} {s : Sg} {a2 : Int32} {a3 : Int32} {a4 : Int32} {k j : Nat} (h37 : k ≠ 37) : (D_X5_writePiece q wl s a2 a3 a4) k j = s k j := by
  by_cases c0 : (D_X8_isReference s a3 a4) = 0
  · rw [show (D_X5_writePiece q wl s a2 a3 a4) = s from ((if_pos c0).trans rfl)]
    first | done | exact rfl
  · by_cases c1 : (D_X8_kind s a3 a4) = 1
    · rw [show (D_X5_writePiece q wl s a2 a3 a4) = (D_X1_put wl s a2 ((D_X3_standsFor q s (D_X8_name s a3 a4)) + (D_X8_added s a3 a4))) from ((if_neg c0).trans ((if_pos c1).trans rfl))]
      first | done | exact ((fw_X1_put h37).trans rfl)
    · by_cases c2 : (D_X3_width q s a3 a4) = 2
      · rw [show (D_X5_writePiece q wl s a2 a3 a4) = (D_X1_put wl (D_X1_put wl s a2 (-1)) (a2 + 1) (((D_X3_standsFor q s (D_X8_name s a3 a4)) - a2) - 2)) from ((if_neg c0).trans ((if_neg c1).trans ((if_pos c2).trans rfl)))]
        first | done | exact ((fw_X1_put h37).trans ((fw_X1_put h37).trans rfl))
      · rw [show (D_X5_writePiece q wl s a2 a3 a4) = (D_X1_put wl (D_X1_put wl s a2 (-2)) (a2 + 1) (D_X3_standsFor q s (D_X8_name s a3 a4))) from ((if_neg c0).trans ((if_neg c1).trans ((if_neg c2).trans rfl)))]
        first | done | exact ((fw_X1_put h37).trans ((fw_X1_put h37).trans rfl))
-- LinkHarbour$Link.writeTo
def fr_X5_writeTo_13 (b w : Nat) (q : Nat) (x2 : Int32) : EF := (13, [(0, .ref (b + q)), (1, .ref (b + 36)), (2, .int x2)], [])
def fe_X5_writeTo_13 (b w : Nat) (q : Nat) (x2 : Int32) : EF := (96, [], [])
def fr_X5_writeTo_46 (b w : Nat) (q : Nat) (a2 : Int32) (a3 : Int32) (x5 : Int32) (x4 : Int32) : EF := (46, [(0, .ref (b + q)), (1, .ref (b + 36)), (2, .int a2), (3, .int a3), (4, .int x4), (5, .int x5)], [])
def fe_X5_writeTo_46 (b w : Nat) (q : Nat) (a2 : Int32) (a3 : Int32) (x5 : Int32) (x4 : Int32) : EF := (90, [(0, .ref (b + q)), (1, .ref (b + 36)), (2, .int a2)], [])
noncomputable def B_X5_writeTo_46 (q : Nat) (wl : Nat) (a2 : Int32) (a3 : Int32) (x5 : Int32) (x4 : Int32) (s : Sg) : Bool × (Int32 × Int32 × Sg) := (if (D_X8_pieces s a3) ≤ x5 then (false, (x5, x4, s)) else (true, ((x5 + 1), (x4 + (D_X3_width q (D_X5_writePiece q wl s x4 a3 x5) a3 x5)), (D_X5_writePiece q wl s x4 a3 x5))))
theorem b_X5_writeTo_46 (hP : WOK b w H0) {q : Nat} (hq : q = 38 ∨ q = 60) (hW : wl < 2000000) {s : Sg} {a2 : Int32} {a3 : Int32} {x5 : Int32} {x4 : Int32} (o : Option Value) (h' : EH) (hN : NN s) (hv : 0 ≤ x5.toInt) (hc : ∀ (t5 : Int32) (t4 : Int32) (ts : Sg), (B_X5_writeTo_46 q wl a2 a3 x5 x4 s) = (true, (t5, t4, ts)) → x5.toInt < 2147483647 → t5 = x5 + 1 → Rx sc g_X5_writeTo 4 (fr_X5_writeTo_46 b w q a2 a3 t5 t4) (wd b w wl H0 ts, kn) o h') (he : ∀ (t5 : Int32) (t4 : Int32) (ts : Sg), (B_X5_writeTo_46 q wl a2 a3 x5 x4 s) = (false, (t5, t4, ts)) → Rx sc g_X5_writeTo 4 (fe_X5_writeTo_46 b w q a2 a3 t5 t4) (wd b w wl H0 ts, kn) o h') : Rx sc g_X5_writeTo 4 (fr_X5_writeTo_46 b w q a2 a3 x5 x4) (wd b w wl H0 s, kn) o h' := by
  show Rx sc g_X5_writeTo 4 (46, [(0, .ref (b + q)), (1, .ref (b + 36)), (2, .int a2), (3, .int a3), (4, .int x4), (5, .int x5)], []) (wd b w wl H0 s, kn) o h'
  refine rx_k 2 (49, [(0, .ref (b + q)), (1, .ref (b + 36)), (2, .int a2), (3, .int a3), (4, .int x4), (5, .int x5)], [.ref (b + q), .int x5]) (fun _ _ => rfl) ?_
  refine rx_getf rfl rfl (wl_0 hP hq) rfl ?_
  refine rx_k 1 (53, [(0, .ref (b + q)), (1, .ref (b + 36)), (2, .int a2), (3, .int a3), (4, .int x4), (5, .int x5)], [.int a3, .ref (b + 11), .int x5]) (fun _ _ => rfl) ?_
  refine rx_inv rfl rfl (rc_X8_pieces hP) rfl rfl rfl (q_recv (wg_11 hP)) rfl rfl ?_
  by_cases c0 : (D_X8_pieces s a3) ≤ x5
  · refine rx_icT rfl (bt c0) ?_
    exact rx_lo am_X5_writeTo (lo := [(0, .ref (b + q)), (1, .ref (b + 36)), (2, .int a2)]) (List.forall_mem_cons.mpr ⟨List.mem_of_getElem? (i := 0) rfl, (List.forall_mem_cons.mpr ⟨List.mem_of_getElem? (i := 1) rfl, (List.forall_mem_cons.mpr ⟨List.mem_of_getElem? (i := 2) rfl, (fun _ h => absurd h List.not_mem_nil)⟩)⟩)⟩) rfl (he _ _ _ (show (B_X5_writeTo_46 q wl a2 a3 x5 x4 s) = (false, (x5, x4, s)) from ((if_pos c0).trans rfl)))
  · refine rx_icF rfl (bf c0) rfl ?_
    refine rx_k 5 (66, [(0, .ref (b + q)), (1, .ref (b + 36)), (2, .int a2), (3, .int a3), (4, .int x4), (5, .int x5)], [.int x5, .int a3, .int x4, .ref (b + 36), .ref (b + q)]) (fun _ _ => rfl) ?_
    refine rx_inv rfl rfl (rc_X5_writePiece hP hq hW hN) rfl rfl rfl (q_recv (wl_0 hP hq)) rfl rfl ?_
    refine rx_k 2 (72, [(0, .ref (b + q)), (1, .ref (b + 36)), (2, .int a2), (3, .int a3), (4, .int x4), (5, .int x5)], [.ref (b + q), .int x4]) (fun _ _ => rfl) ?_
    refine rx_getf rfl rfl (wl_0 hP hq) rfl ?_
    refine rx_k 2 (78, [(0, .ref (b + q)), (1, .ref (b + 36)), (2, .int a2), (3, .int a3), (4, .int x4), (5, .int x5)], [.int x5, .int a3, .ref (b + (q + 15)), .int x4]) (fun _ _ => rfl) ?_
    refine rx_inv rfl rfl (rc_X3_width hP hq) rfl rfl rfl (q_recv (wl_15 hP hq)) rfl rfl ?_
    refine rx_k 4 (46, [(5, .int (x5 + 1)), (4, .int (x4 + (D_X3_width q (D_X5_writePiece q wl s x4 a3 x5) a3 x5))), (0, .ref (b + q)), (1, .ref (b + 36)), (2, .int a2), (3, .int a3)], []) (fun _ _ => rfl) ?_
    refine rx_lo am_X5_writeTo (lo := [(0, .ref (b + q)), (1, .ref (b + 36)), (2, .int a2), (3, .int a3), (4, .int (x4 + (D_X3_width q (D_X5_writePiece q wl s x4 a3 x5) a3 x5))), (5, .int (x5 + 1))]) (List.forall_mem_cons.mpr ⟨List.mem_of_getElem? (i := 2) rfl, (List.forall_mem_cons.mpr ⟨List.mem_of_getElem? (i := 3) rfl, (List.forall_mem_cons.mpr ⟨List.mem_of_getElem? (i := 4) rfl, (List.forall_mem_cons.mpr ⟨List.mem_of_getElem? (i := 5) rfl, (List.forall_mem_cons.mpr ⟨List.mem_of_getElem? (i := 1) rfl, (List.forall_mem_cons.mpr ⟨List.mem_of_getElem? (i := 0) rfl, (fun _ h => absurd h List.not_mem_nil)⟩)⟩)⟩)⟩)⟩)⟩) rfl (hc _ _ _ (show (B_X5_writeTo_46 q wl a2 a3 x5 x4 s) = (true, ((x5 + 1), (x4 + (D_X3_width q (D_X5_writePiece q wl s x4 a3 x5) a3 x5)), (D_X5_writePiece q wl s x4 a3 x5))) from ((if_neg c0).trans rfl)) (lt_nle c0) rfl)
theorem nb_X5_writeTo_46 {q : Nat} (hq : q = 38 ∨ q = 60) {wl : Nat} {a2 : Int32} {a3 : Int32} {x5 : Int32} {x4 : Int32} {s : Sg} (hN : NN s) : ∃ (f : Bool) (t5 : Int32) (t4 : Int32) (ts : Sg), (B_X5_writeTo_46 q wl a2 a3 x5 x4 s) = (f, (t5, t4, ts)) ∧ NN ts := by
  by_cases c0 : (D_X8_pieces s a3) ≤ x5
  · exact ⟨_, _, _, _, (show (B_X5_writeTo_46 q wl a2 a3 x5 x4 s) = (false, (x5, x4, s)) from ((if_pos c0).trans rfl)), hN⟩
  · exact ⟨_, _, _, _, (show (B_X5_writeTo_46 q wl a2 a3 x5 x4 s) = (true, ((x5 + 1), (x4 + (D_X3_width q (D_X5_writePiece q wl s x4 a3 x5) a3 x5)), (D_X5_writePiece q wl s x4 a3 x5))) from ((if_neg c0).trans rfl)), (nn_X5_writePiece hq hN)⟩
noncomputable def R_X5_writeTo_90 (q : Nat) (wl : Nat) (s : Sg) (a2 : Int32) : Bool × (Int32 × Sg) := (true, ((a2 + 1), s))
theorem r_X5_writeTo_90 (hP : WOK b w H0) {q : Nat} (hq : q = 38 ∨ q = 60) (hW : wl < 2000000) {s : Sg} {a2 : Int32} (o : Option Value) (h' : EH) (hN : NN s) (hv : 0 ≤ (a2).toInt) (hlt : (a2).toInt < 2147483647) (hc : ∀ (t2 : Int32) (ts : Sg), (R_X5_writeTo_90 q wl s a2) = (true, (t2, ts)) → a2.toInt < 2147483647 → t2 = a2 + 1 → Rx sc g_X5_writeTo 4 (fr_X5_writeTo_13 b w q t2) (wd b w wl H0 ts, kn) o h') (he : ∀ (t2 : Int32) (ts : Sg), (R_X5_writeTo_90 q wl s a2) = (false, (t2, ts)) → Rx sc g_X5_writeTo 4 (fe_X5_writeTo_13 b w q t2) (wd b w wl H0 ts, kn) o h') : Rx sc g_X5_writeTo 4 ((90, [(0, .ref (b + q)), (1, .ref (b + 36)), (2, .int a2)], [])) (wd b w wl H0 s, kn) o h' := by
  show Rx sc g_X5_writeTo 4 (90, [(0, .ref (b + q)), (1, .ref (b + 36)), (2, .int a2)], []) (wd b w wl H0 s, kn) o h'
  refine rx_k 2 (13, [(2, .int (a2 + 1)), (0, .ref (b + q)), (1, .ref (b + 36))], []) (fun _ _ => rfl) ?_
  refine rx_lo am_X5_writeTo (lo := [(0, .ref (b + q)), (1, .ref (b + 36)), (2, .int (a2 + 1))]) (List.forall_mem_cons.mpr ⟨List.mem_of_getElem? (i := 1) rfl, (List.forall_mem_cons.mpr ⟨List.mem_of_getElem? (i := 2) rfl, (List.forall_mem_cons.mpr ⟨List.mem_of_getElem? (i := 0) rfl, (fun _ h => absurd h List.not_mem_nil)⟩)⟩)⟩) rfl (hc _ _ (show (R_X5_writeTo_90 q wl s a2) = (true, ((a2 + 1), s)) from rfl) hlt rfl)
theorem nr_X5_writeTo_90 {q : Nat} (hq : q = 38 ∨ q = 60) {wl : Nat} {s : Sg} {a2 : Int32} (hN : NN s) : ∃ (f : Bool) (t2 : Int32) (ts : Sg), (R_X5_writeTo_90 q wl s a2) = (f, (t2, ts)) ∧ NN ts := by
  exact ⟨_, _, _, (show (R_X5_writeTo_90 q wl s a2) = (true, ((a2 + 1), s)) from rfl), hN⟩
noncomputable def B_X5_writeTo_13 (q : Nat) (wl : Nat) (x2 : Int32) (s : Sg) : Bool × (Int32 × Sg) := (if (D_X3_laid q s) ≤ x2 then (false, (x2, s)) else (R_X5_writeTo_90 q wl ((itr (uc3 (B_X5_writeTo_46 q wl x2 (D_X3_sectionAt q s x2))) BIG (0, (D_X3_addressOf q s (D_X3_sectionAt q s x2)), s)).2.2) x2))
theorem b_X5_writeTo_13 (hP : WOK b w H0) {q : Nat} (hq : q = 38 ∨ q = 60) (hW : wl < 2000000) {s : Sg} {x2 : Int32} (o : Option Value) (h' : EH) (hN : NN s) (hv : 0 ≤ x2.toInt) (hc : ∀ (t2 : Int32) (ts : Sg), (B_X5_writeTo_13 q wl x2 s) = (true, (t2, ts)) → x2.toInt < 2147483647 → t2 = x2 + 1 → Rx sc g_X5_writeTo 4 (fr_X5_writeTo_13 b w q t2) (wd b w wl H0 ts, kn) o h') (he : ∀ (t2 : Int32) (ts : Sg), (B_X5_writeTo_13 q wl x2 s) = (false, (t2, ts)) → Rx sc g_X5_writeTo 4 (fe_X5_writeTo_13 b w q t2) (wd b w wl H0 ts, kn) o h') : Rx sc g_X5_writeTo 4 (fr_X5_writeTo_13 b w q x2) (wd b w wl H0 s, kn) o h' := by
  show Rx sc g_X5_writeTo 4 (13, [(0, .ref (b + q)), (1, .ref (b + 36)), (2, .int x2)], []) (wd b w wl H0 s, kn) o h'
  refine rx_k 2 (15, [(0, .ref (b + q)), (1, .ref (b + 36)), (2, .int x2)], [.ref (b + q), .int x2]) (fun _ _ => rfl) ?_
  refine rx_getf rfl rfl (wl_0 hP hq) rfl ?_
  refine rx_inv rfl rfl (rc_X3_laid hP hq) rfl rfl rfl (q_recv (wl_15 hP hq)) rfl rfl ?_
  by_cases c0 : (D_X3_laid q s) ≤ x2
  · refine rx_icT rfl (bt c0) ?_
    exact rx_lo am_X5_writeTo (lo := []) (fun _ h => absurd h List.not_mem_nil) rfl (he _ _ (show (B_X5_writeTo_13 q wl x2 s) = (false, (x2, s)) from ((if_pos c0).trans rfl)))
  · refine rx_icF rfl (bf c0) rfl ?_
    refine rx_k 1 (25, [(0, .ref (b + q)), (1, .ref (b + 36)), (2, .int x2)], [.ref (b + q)]) (fun _ _ => rfl) ?_
    refine rx_getf rfl rfl (wl_0 hP hq) rfl ?_
    refine rx_k 1 (29, [(0, .ref (b + q)), (1, .ref (b + 36)), (2, .int x2)], [.int x2, .ref (b + (q + 15))]) (fun _ _ => rfl) ?_
    refine rx_inv rfl rfl (rc_X3_sectionAt hP hq) rfl rfl rfl (q_recv (wl_15 hP hq)) rfl rfl ?_
    refine rx_k 2 (34, [(3, .int (D_X3_sectionAt q s x2)), (0, .ref (b + q)), (1, .ref (b + 36)), (2, .int x2)], [.ref (b + q)]) (fun _ _ => rfl) ?_
    refine rx_getf rfl rfl (wl_0 hP hq) rfl ?_
    refine rx_k 1 (38, [(3, .int (D_X3_sectionAt q s x2)), (0, .ref (b + q)), (1, .ref (b + 36)), (2, .int x2)], [.int (D_X3_sectionAt q s x2), .ref (b + (q + 15))]) (fun _ _ => rfl) ?_
    refine rx_inv rfl rfl (rc_X3_addressOf hP hq) rfl rfl rfl (q_recv (wl_15 hP hq)) rfl rfl ?_
    refine rx_k 3 (46, [(5, .int 0), (4, .int (D_X3_addressOf q s (D_X3_sectionAt q s x2))), (3, .int (D_X3_sectionAt q s x2)), (0, .ref (b + q)), (1, .ref (b + 36)), (2, .int x2)], []) (fun _ _ => rfl) ?_
    refine rx_lo am_X5_writeTo (lo := [(0, .ref (b + q)), (1, .ref (b + 36)), (2, .int x2), (3, .int (D_X3_sectionAt q s x2)), (4, .int (D_X3_addressOf q s (D_X3_sectionAt q s x2))), (5, .int 0)]) (List.forall_mem_cons.mpr ⟨List.mem_of_getElem? (i := 3) rfl, (List.forall_mem_cons.mpr ⟨List.mem_of_getElem? (i := 4) rfl, (List.forall_mem_cons.mpr ⟨List.mem_of_getElem? (i := 5) rfl, (List.forall_mem_cons.mpr ⟨List.mem_of_getElem? (i := 2) rfl, (List.forall_mem_cons.mpr ⟨List.mem_of_getElem? (i := 1) rfl, (List.forall_mem_cons.mpr ⟨List.mem_of_getElem? (i := 0) rfl, (fun _ h => absurd h List.not_mem_nil)⟩)⟩)⟩)⟩)⟩)⟩) rfl ?_
    refine rx_loop3s (B := B_X5_writeTo_46 q wl x2 (D_X3_sectionAt q s x2)) (fr := (fr_X5_writeTo_46 b w q x2 (D_X3_sectionAt q s x2))) (E := (fe_X5_writeTo_46 b w q x2 (D_X3_sectionAt q s x2))) (I := fun z5 z4 zs => NN zs) (fun z5 z4 zs oo hh9 hI9 hv9 hc9 he9 => b_X5_writeTo_46 hP hq hW oo hh9 hI9 hv9 hc9 he9) (fun z5 z4 zs hz => nb_X5_writeTo_46 hq hz) BIG 0 (D_X3_addressOf q s (D_X3_sectionAt q s x2)) s _ _ hN (by decide : (0 : Int) ≤ (0 : Int32).toInt) (le_enough (by decide : (0 : Int) ≤ (0 : Int32).toInt)) ?_
    have e9 := (show (B_X5_writeTo_13 q wl x2 s) = (R_X5_writeTo_90 q wl ((itr (uc3 (B_X5_writeTo_46 q wl x2 (D_X3_sectionAt q s x2))) BIG (0, (D_X3_addressOf q s (D_X3_sectionAt q s x2)), s)).2.2) x2) from ((if_neg c0).trans rfl))
    exact r_X5_writeTo_90 hP hq hW o h' (itr_inv3 (B := B_X5_writeTo_46 q wl x2 (D_X3_sectionAt q s x2)) (I := fun z5 z4 zs => NN zs) (fun z5 z4 zs hz => nb_X5_writeTo_46 hq hz) BIG 0 (D_X3_addressOf q s (D_X3_sectionAt q s x2)) s hN) hv (lt_nle c0) (fun t2 ts e8 l8 v8 => hc t2 ts (e9.trans e8) l8 v8) (fun t2 ts e8 => he t2 ts (e9.trans e8))
theorem nb_X5_writeTo_13 {q : Nat} (hq : q = 38 ∨ q = 60) {wl : Nat} {x2 : Int32} {s : Sg} (hN : NN s) : ∃ (f : Bool) (t2 : Int32) (ts : Sg), (B_X5_writeTo_13 q wl x2 s) = (f, (t2, ts)) ∧ NN ts := by
  by_cases c0 : (D_X3_laid q s) ≤ x2
  · exact ⟨_, _, _, (show (B_X5_writeTo_13 q wl x2 s) = (false, (x2, s)) from ((if_pos c0).trans rfl)), hN⟩
  · rw [show (B_X5_writeTo_13 q wl x2 s) = (R_X5_writeTo_90 q wl ((itr (uc3 (B_X5_writeTo_46 q wl x2 (D_X3_sectionAt q s x2))) BIG (0, (D_X3_addressOf q s (D_X3_sectionAt q s x2)), s)).2.2) x2) from ((if_neg c0).trans rfl)]
    exact (nr_X5_writeTo_90 hq (itr_inv3 (B := B_X5_writeTo_46 q wl x2 (D_X3_sectionAt q s x2)) (I := fun z5 z4 zs => NN zs) (fun z5 z4 zs hz => nb_X5_writeTo_46 hq hz) BIG 0 (D_X3_addressOf q s (D_X3_sectionAt q s x2)) s hN))
noncomputable def R_X5_writeTo_96 (q : Nat) (wl : Nat) (s : Sg) : Sg := s
theorem r_X5_writeTo_96 (hP : WOK b w H0) {q : Nat} (hq : q = 38 ∨ q = 60) (hW : wl < 2000000) {s : Sg} (hN : NN s) : Rx sc g_X5_writeTo 4 ((96, [], [])) (wd b w wl H0 s, kn) none (wd b w wl H0 (R_X5_writeTo_96 q wl s), kn) := by
  show Rx sc g_X5_writeTo 4 (96, [], []) (wd b w wl H0 s, kn) none (wd b w wl H0 (R_X5_writeTo_96 q wl s), kn)
  rw [(show (R_X5_writeTo_96 q wl s) = s from rfl)]
  exact rx_rv rfl
theorem nr_X5_writeTo_96 {q : Nat} (hq : q = 38 ∨ q = 60) {wl : Nat} {s : Sg} (hN : NN s) : NN ((R_X5_writeTo_96 q wl s)) := by
  rw [show (R_X5_writeTo_96 q wl s) = s from rfl]
  exact hN
noncomputable def R_X5_writeTo_cut (q : Nat) (wl : Nat) (s : Sg) : Sg := (R_X5_writeTo_96 q wl ((itr (uc2 (B_X5_writeTo_13 q wl)) BIG (0, s)).2))
theorem r_X5_writeTo_cut (hP : WOK b w H0) {q : Nat} (hq : q = 38 ∨ q = 60) (hW : wl < 2000000) {s : Sg} (hN : NN s) : Rx sc g_X5_writeTo 4 ((11, [(0, .ref (b + q)), (1, .ref (b + 36))], [])) (wd b w wl H0 s, kn) none (wd b w wl H0 (R_X5_writeTo_cut q wl s), kn) := by
  show Rx sc g_X5_writeTo 4 (11, [(0, .ref (b + q)), (1, .ref (b + 36))], []) (wd b w wl H0 s, kn) none (wd b w wl H0 (R_X5_writeTo_cut q wl s), kn)
  refine rx_k 2 (13, [(2, .int 0), (0, .ref (b + q)), (1, .ref (b + 36))], []) (fun _ _ => rfl) ?_
  refine rx_lo am_X5_writeTo (lo := [(0, .ref (b + q)), (1, .ref (b + 36)), (2, .int 0)]) (List.forall_mem_cons.mpr ⟨List.mem_of_getElem? (i := 1) rfl, (List.forall_mem_cons.mpr ⟨List.mem_of_getElem? (i := 2) rfl, (List.forall_mem_cons.mpr ⟨List.mem_of_getElem? (i := 0) rfl, (fun _ h => absurd h List.not_mem_nil)⟩)⟩)⟩) rfl ?_
  refine rx_loop2s (B := B_X5_writeTo_13 q wl) (fr := (fr_X5_writeTo_13 b w q)) (E := (fe_X5_writeTo_13 b w q)) (I := fun z2 zs => NN zs) (fun z2 zs oo hh9 hI9 hv9 hc9 he9 => b_X5_writeTo_13 hP hq hW oo hh9 hI9 hv9 hc9 he9) (fun z2 zs hz => nb_X5_writeTo_13 hq hz) BIG 0 s _ _ hN (by decide : (0 : Int) ≤ (0 : Int32).toInt) (le_enough (by decide : (0 : Int) ≤ (0 : Int32).toInt)) ?_
  rw [(show (R_X5_writeTo_cut q wl s) = (R_X5_writeTo_96 q wl ((itr (uc2 (B_X5_writeTo_13 q wl)) BIG (0, s)).2)) from rfl)]
  exact r_X5_writeTo_96 hP hq hW (itr_inv2 (B := B_X5_writeTo_13 q wl) (I := fun z2 zs => NN zs) (fun z2 zs hz => nb_X5_writeTo_13 hq hz) BIG 0 s hN)
theorem nr_X5_writeTo_cut {q : Nat} (hq : q = 38 ∨ q = 60) {wl : Nat} {s : Sg} (hN : NN s) : NN ((R_X5_writeTo_cut q wl s)) := by
  rw [show (R_X5_writeTo_cut q wl s) = (R_X5_writeTo_96 q wl ((itr (uc2 (B_X5_writeTo_13 q wl)) BIG (0, s)).2)) from rfl]
  exact (nr_X5_writeTo_96 hq (itr_inv2 (B := B_X5_writeTo_13 q wl) (I := fun z2 zs => NN zs) (fun z2 zs hz => nb_X5_writeTo_13 hq hz) BIG 0 s hN))
-- LinkHarbour$ObjectTable.count
noncomputable def D_X6_count (s : Sg) : Int32 := (s 1 9)
theorem m_X6_count (hP : WOK b w H0) {s : Sg} : Rx sc g_X6_count 0 ((0, [(0, .ref (b + 1))], [])) (wd b w wl H0 s, kn) (some (.int (D_X6_count s))) (wd b w wl H0 s, kn) := by
  show Rx sc g_X6_count 0 (0, [(0, .ref (b + 1))], []) (wd b w wl H0 s, kn) (some (.int (D_X6_count s))) (wd b w wl H0 s, kn)
  refine rx_k 1 (1, [(0, .ref (b + 1))], [.ref (b + 1)]) (fun _ _ => rfl) ?_
  refine rx_getf rfl rfl (wg_1 hP) rfl ?_
  rw [(show (D_X6_count s) = (s 1 9) from rfl)]
  exact rx_ri rfl
theorem rc_X6_count (hP : WOK b w H0) {s : Sg} : Rc sc 1 86 [.ref (b + 1)] (wd b w wl H0 s, kn) (some (.int (D_X6_count s))) (wd b w wl H0 s, kn) := rx_mc (m_X6_count hP) rfl rfl (Nat.ble_eq_true_of_le (Nat.le_refl _)) (Nat.ble_eq_true_of_le (Nat.le_refl _))

theorem has_6 {s : Sg} {a : Int32} (h1 : 0 ≤ a.toInt) (h2 : ¬ D_X6_count s ≤ a) (h3 : (s 1 9).toInt ≤ 10) : ¬ D_X6_has s a = 0 := by
  have h4 : ¬ s 1 9 ≤ a := h2
  have h5 : a.toInt < (s 1 9).toInt := Int32.lt_iff_toInt_lt.mp (Int32.not_le.mp h4)
  unfold D_X6_has
  rw [if_neg (n_lt h1), if_neg h4, if_neg (n_le (m := 10) (n := 10) (by omega) rfl)]
  decide
-- LinkHarbour$ObjectTable.isFull
noncomputable def D_X6_isFull (s : Sg) : Int32 := (if (s 1 9) < 10 then 0 else 1)
theorem m_X6_isFull (hP : WOK b w H0) {s : Sg} : Rx sc g_X6_isFull 0 ((0, [(0, .ref (b + 1))], [])) (wd b w wl H0 s, kn) (some (.int (D_X6_isFull s))) (wd b w wl H0 s, kn) := by
  show Rx sc g_X6_isFull 0 (0, [(0, .ref (b + 1))], []) (wd b w wl H0 s, kn) (some (.int (D_X6_isFull s))) (wd b w wl H0 s, kn)
  refine rx_k 1 (1, [(0, .ref (b + 1))], [.ref (b + 1)]) (fun _ _ => rfl) ?_
  refine rx_getf rfl rfl (wg_1 hP) rfl ?_
  refine rx_k 1 (6, [(0, .ref (b + 1))], [.int 10, .int (s 1 9)]) (fun _ _ => rfl) ?_
  by_cases c0 : (s 1 9) < 10
  · refine rx_icT rfl (bt c0) ?_
    refine rx_k 1 (14, [(0, .ref (b + 1))], [.int 0]) (fun _ _ => rfl) ?_
    rw [(show (D_X6_isFull s) = 0 from ((if_pos c0).trans rfl))]
    exact rx_ri rfl
  · refine rx_icF rfl (bf c0) rfl ?_
    refine rx_k 2 (14, [(0, .ref (b + 1))], [.int 1]) (fun _ _ => rfl) ?_
    rw [(show (D_X6_isFull s) = 1 from ((if_neg c0).trans rfl))]
    exact rx_ri rfl
theorem bz_X6_isFull {s : Sg} : bz (D_X6_isFull s) = true := by
  by_cases c0 : (s 1 9) < 10
  · rw [show (D_X6_isFull s) = 0 from ((if_pos c0).trans rfl)]
    exact rfl
  · rw [show (D_X6_isFull s) = 1 from ((if_neg c0).trans rfl)]
    exact rfl
theorem rc_X6_isFull (hP : WOK b w H0) {s : Sg} : Rc sc 1 87 [.ref (b + 1)] (wd b w wl H0 s, kn) (some (.int (D_X6_isFull s))) (wd b w wl H0 s, kn) := rx_mc (m_X6_isFull hP) rfl (bz_X6_isFull ..) (Nat.ble_eq_true_of_le (Nat.le_refl _)) (Nat.ble_eq_true_of_le (Nat.le_refl _))
-- LinkHarbour$ObjectTable.hasAll
noncomputable def D_X6_hasAll (s : Sg) (a1 : Int32) : Int32 := (if (a1 >>> ((s 1 9) &&& 31)) = 0 then 1 else 0)
theorem m_X6_hasAll (hP : WOK b w H0) {s : Sg} {a1 : Int32} : Rx sc g_X6_hasAll 0 ((0, [(0, .ref (b + 1)), (1, .int a1)], [])) (wd b w wl H0 s, kn) (some (.int (D_X6_hasAll s a1))) (wd b w wl H0 s, kn) := by
  show Rx sc g_X6_hasAll 0 (0, [(0, .ref (b + 1)), (1, .int a1)], []) (wd b w wl H0 s, kn) (some (.int (D_X6_hasAll s a1))) (wd b w wl H0 s, kn)
  refine rx_k 2 (2, [(0, .ref (b + 1)), (1, .int a1)], [.ref (b + 1), .int a1]) (fun _ _ => rfl) ?_
  refine rx_getf rfl rfl (wg_1 hP) rfl ?_
  refine rx_k 1 (6, [(0, .ref (b + 1)), (1, .int a1)], [.int (a1 >>> ((s 1 9) &&& 31))]) (fun _ _ => rfl) ?_
  by_cases c0 : (a1 >>> ((s 1 9) &&& 31)) = 0
  · refine rx_ifF rfl (nf c0) rfl ?_
    refine rx_k 2 (14, [(0, .ref (b + 1)), (1, .int a1)], [.int 1]) (fun _ _ => rfl) ?_
    rw [(show (D_X6_hasAll s a1) = 1 from ((if_pos c0).trans rfl))]
    exact rx_ri rfl
  · refine rx_ifT rfl (nt c0) ?_
    refine rx_k 1 (14, [(0, .ref (b + 1)), (1, .int a1)], [.int 0]) (fun _ _ => rfl) ?_
    rw [(show (D_X6_hasAll s a1) = 0 from ((if_neg c0).trans rfl))]
    exact rx_ri rfl
theorem bz_X6_hasAll {s : Sg} {a1 : Int32} : bz (D_X6_hasAll s a1) = true := by
  by_cases c0 : (a1 >>> ((s 1 9) &&& 31)) = 0
  · rw [show (D_X6_hasAll s a1) = 1 from ((if_pos c0).trans rfl)]
    exact rfl
  · rw [show (D_X6_hasAll s a1) = 0 from ((if_neg c0).trans rfl)]
    exact rfl
theorem rc_X6_hasAll (hP : WOK b w H0) {s : Sg} {a1 : Int32} : Rc sc 1 89 [.ref (b + 1), .int a1] (wd b w wl H0 s, kn) (some (.int (D_X6_hasAll s a1))) (wd b w wl H0 s, kn) := rx_mc (m_X6_hasAll hP) rfl (bz_X6_hasAll ..) (Nat.ble_eq_true_of_le (Nat.le_refl _)) (Nat.ble_eq_true_of_le (Nat.le_refl _))
-- LinkHarbour$ObjectTable.add
noncomputable def D_X6_add (s : Sg) : Int32 × Sg := ((s 1 9), (up s 1 9 ((s 1 9) + 1)))
theorem m_X6_add (hP : WOK b w H0) {s : Sg} (hN : NN s) : Rx sc g_X6_add 0 ((0, [(0, .ref (b + 1))], [])) (wd b w wl H0 s, kn) (some (.int (D_X6_add s).1)) (wd b w wl H0 (D_X6_add s).2, kn) := by
  show Rx sc g_X6_add 0 (0, [(0, .ref (b + 1))], []) (wd b w wl H0 s, kn) (some (.int (D_X6_add s).1)) (wd b w wl H0 (D_X6_add s).2, kn)
  refine rx_k 1 (1, [(0, .ref (b + 1))], [.ref (b + 1)]) (fun _ _ => rfl) ?_
  refine rx_getf rfl rfl (wg_1 hP) rfl ?_
  refine rx_k 3 (7, [(1, .int (s 1 9)), (0, .ref (b + 1))], [.ref (b + 1), .ref (b + 1)]) (fun _ _ => rfl) ?_
  refine rx_getf rfl rfl (wg_1 hP) rfl ?_
  refine rx_k 2 (12, [(1, .int (s 1 9)), (0, .ref (b + 1))], [.int ((s 1 9) + 1), .ref (b + 1)]) (fun _ _ => rfl) ?_
  refine rx_putf rfl rfl (wg_1 hP) rfl (ws_1_9 hP) ?_
  refine rx_k 1 (16, [(1, .int (s 1 9)), (0, .ref (b + 1))], [.int (s 1 9)]) (fun _ _ => rfl) ?_
  rw [(show (D_X6_add s) = ((s 1 9), (up s 1 9 ((s 1 9) + 1))) from rfl)]
  exact rx_ri rfl
theorem rc_X6_add (hP : WOK b w H0) {s : Sg} (hN : NN s) : Rc sc 1 90 [.ref (b + 1)] (wd b w wl H0 s, kn) (some (.int (D_X6_add s).1)) (wd b w wl H0 (D_X6_add s).2, kn) := rx_mc (m_X6_add hP hN) rfl rfl (Nat.ble_eq_true_of_le (Nat.le_refl _)) (Nat.ble_eq_true_of_le (Nat.le_refl _))
theorem nn_X6_add {s : Sg} (hN : NN s) : NN (D_X6_add s).2 := by
  exact pair_of (P := fun zs => NN zs) (show (D_X6_add s) = ((s 1 9), (up s 1 9 ((s 1 9) + 1))) from rfl) (nn_0 rfl hN)
theorem fw_X6_add {s : Sg} {k j : Nat} (h1f9 : k ≠ 1 ∨ j ≠ 9) : (D_X6_add s).2 k j = s k j := by
  exact pair_of (P := fun zs => zs k j = s k j) (show (D_X6_add s) = ((s 1 9), (up s 1 9 ((s 1 9) + 1))) from rfl) ((up_f h1f9).trans rfl)
-- LinkHarbour$ObjectTable.need
noncomputable def D_X6_need (s : Sg) (a1 : Int32) (a2 : Int32) : Sg := (if (D_X6_has s a1) = 0 then s else (up s 4 a1.toNatClampNeg ((s 4 a1.toNatClampNeg) ||| (1 <<< (a2 &&& 31)))))
theorem m_X6_need (hP : WOK b w H0) {s : Sg} {a1 : Int32} {a2 : Int32} (hN : NN s) : Rx sc g_X6_need 1 ((0, [(0, .ref (b + 1)), (1, .int a1), (2, .int a2)], [])) (wd b w wl H0 s, kn) none (wd b w wl H0 (D_X6_need s a1 a2), kn) := by
  show Rx sc g_X6_need 1 (0, [(0, .ref (b + 1)), (1, .int a1), (2, .int a2)], []) (wd b w wl H0 s, kn) none (wd b w wl H0 (D_X6_need s a1 a2), kn)
  refine rx_k 2 (2, [(0, .ref (b + 1)), (1, .int a1), (2, .int a2)], [.int a1, .ref (b + 1)]) (fun _ _ => rfl) ?_
  refine rx_inv rfl rfl (rc_X6_has hP) rfl rfl rfl (q_recv (wg_1 hP)) rfl rfl ?_
  by_cases c0 : (D_X6_has s a1) = 0
  · refine rx_ifT rfl (bt c0) ?_
    rw [(show (D_X6_need s a1 a2) = s from ((if_pos c0).trans rfl))]
    exact rx_rv rfl
  · refine rx_ifF rfl (bf c0) rfl ?_
    refine rx_k 1 (9, [(0, .ref (b + 1)), (1, .int a1), (2, .int a2)], [.ref (b + 1)]) (fun _ _ => rfl) ?_
    refine rx_getf rfl rfl (wg_1 hP) rfl ?_
    refine rx_k 2 (14, [(0, .ref (b + 1)), (1, .int a1), (2, .int a2)], [.int a1, .ref (b + 4), .int a1, .ref (b + 4)]) (fun _ _ => rfl) ?_
    refine rx_ild rfl rfl (wg_4 hP) (ar_at (rg_X6_has c0)) ?_
    refine rx_k 4 (19, [(0, .ref (b + 1)), (1, .int a1), (2, .int a2)], [.int ((s 4 a1.toNatClampNeg) ||| (1 <<< (a2 &&& 31))), .int a1, .ref (b + 4)]) (fun _ _ => rfl) ?_
    refine rx_ist rfl rfl (wg_4 hP) rfl (ar_at (rg_X6_has c0)) (ws_4 hP (rg_X6_has c0)) ?_
    rw [(show (D_X6_need s a1 a2) = (up s 4 a1.toNatClampNeg ((s 4 a1.toNatClampNeg) ||| (1 <<< (a2 &&& 31)))) from ((if_neg c0).trans rfl))]
    exact rx_rv rfl
theorem rc_X6_need (hP : WOK b w H0) {s : Sg} {a1 : Int32} {a2 : Int32} (hN : NN s) : Rc sc 2 94 [.ref (b + 1), .int a1, .int a2] (wd b w wl H0 s, kn) none (wd b w wl H0 (D_X6_need s a1 a2), kn) := rx_mc (m_X6_need hP hN) rfl rfl (Nat.ble_eq_true_of_le (Nat.le_refl _)) (Nat.ble_eq_true_of_le (Nat.le_refl _))
theorem nn_X6_need {s : Sg} {a1 : Int32} {a2 : Int32} (hN : NN s) : NN (D_X6_need s a1 a2) := by
  by_cases c0 : (D_X6_has s a1) = 0
  · rw [show (D_X6_need s a1 a2) = s from ((if_pos c0).trans rfl)]
    exact hN
  · rw [show (D_X6_need s a1 a2) = (up s 4 a1.toNatClampNeg ((s 4 a1.toNatClampNeg) ||| (1 <<< (a2 &&& 31)))) from ((if_neg c0).trans rfl)]
    exact (nn_0 rfl hN)
theorem fw_X6_need {s : Sg} {a1 : Int32} {a2 : Int32} {k j : Nat} (h4 : k ≠ 4) : (D_X6_need s a1 a2) k j = s k j := by
  by_cases c0 : (D_X6_has s a1) = 0
  · rw [show (D_X6_need s a1 a2) = s from ((if_pos c0).trans rfl)]
    first | done | exact rfl
  · rw [show (D_X6_need s a1 a2) = (up s 4 a1.toNatClampNeg ((s 4 a1.toNatClampNeg) ||| (1 <<< (a2 &&& 31)))) from ((if_neg c0).trans rfl)]
    first | done | exact ((up_a h4).trans rfl)
-- LinkHarbour$ObjectTable.addDefinition
noncomputable def D_X6_addDefinition (s : Sg) (a1 : Int32) (a2 : Int32) (a3 : Int32) (a4 : Int32) (a5 : Int32) : Sg := (if (D_X6_has s a1) = 0 then s else (if (D_X11_isName a2) = 0 then s else (if a3 = 2 then (up (up (up (up s 5 ((a1 * 20) + a2).toNatClampNeg a3) 6 ((a1 * 20) + a2).toNatClampNeg a4) 7 ((a1 * 20) + a2).toNatClampNeg a5) 2 a1.toNatClampNeg ((s 2 a1.toNatClampNeg) ||| (1 <<< (a2 &&& 31)))) else (up (up (up (up (up s 5 ((a1 * 20) + a2).toNatClampNeg a3) 6 ((a1 * 20) + a2).toNatClampNeg a4) 7 ((a1 * 20) + a2).toNatClampNeg a5) 2 a1.toNatClampNeg ((s 2 a1.toNatClampNeg) ||| (1 <<< (a2 &&& 31)))) 3 a1.toNatClampNeg ((s 3 a1.toNatClampNeg) ||| (1 <<< (a2 &&& 31)))))))
theorem m_X6_addDefinition (hP : WOK b w H0) {s : Sg} {a1 : Int32} {a2 : Int32} {a3 : Int32} {a4 : Int32} {a5 : Int32} (hN : NN s) : Rx sc g_X6_addDefinition 1 ((0, [(0, .ref (b + 1)), (1, .int a1), (2, .int a2), (3, .int a3), (4, .int a4), (5, .int a5)], [])) (wd b w wl H0 s, kn) none (wd b w wl H0 (D_X6_addDefinition s a1 a2 a3 a4 a5), kn) := by
  show Rx sc g_X6_addDefinition 1 (0, [(0, .ref (b + 1)), (1, .int a1), (2, .int a2), (3, .int a3), (4, .int a4), (5, .int a5)], []) (wd b w wl H0 s, kn) none (wd b w wl H0 (D_X6_addDefinition s a1 a2 a3 a4 a5), kn)
  refine rx_k 2 (2, [(0, .ref (b + 1)), (1, .int a1), (2, .int a2), (3, .int a3), (4, .int a4), (5, .int a5)], [.int a1, .ref (b + 1)]) (fun _ _ => rfl) ?_
  refine rx_inv rfl rfl (rc_X6_has hP) rfl rfl rfl (q_recv (wg_1 hP)) rfl rfl ?_
  by_cases c0 : (D_X6_has s a1) = 0
  · refine rx_ifT rfl (bt c0) ?_
    rw [(show (D_X6_addDefinition s a1 a2 a3 a4 a5) = s from ((if_pos c0).trans rfl))]
    exact rx_rv rfl
  · refine rx_ifF rfl (bf c0) rfl ?_
    refine rx_k 1 (9, [(0, .ref (b + 1)), (1, .int a1), (2, .int a2), (3, .int a3), (4, .int a4), (5, .int a5)], [.int a2]) (fun _ _ => rfl) ?_
    refine rx_inv rfl rfl (rc_X11_isName) rfl rfl rfl rfl rfl rfl ?_
    by_cases c1 : (D_X11_isName a2) = 0
    · refine rx_ifF rfl (nf c1) rfl ?_
      rw [(show (D_X6_addDefinition s a1 a2 a3 a4 a5) = s from ((if_neg c0).trans ((if_pos c1).trans rfl)))]
      exact rx_rv rfl
    · refine rx_ifT rfl (nt c1) ?_
      refine rx_k 7 (25, [(6, .int ((a1 * 20) + a2)), (0, .ref (b + 1)), (1, .int a1), (2, .int a2), (3, .int a3), (4, .int a4), (5, .int a5)], [.ref (b + 1)]) (fun _ _ => rfl) ?_
      refine rx_getf rfl rfl (wg_1 hP) rfl ?_
      refine rx_k 2 (31, [(6, .int ((a1 * 20) + a2)), (0, .ref (b + 1)), (1, .int a1), (2, .int a2), (3, .int a3), (4, .int a4), (5, .int a5)], [.int a3, .int ((a1 * 20) + a2), .ref (b + 5)]) (fun _ _ => rfl) ?_
      refine rx_ist rfl rfl (wg_5 hP) rfl (ar_at (i_mul_add 20 20 rfl (rg_X6_has c0) (rg_isName c1) (by decide) (by decide))) (ws_5 hP (i_mul_add 20 20 rfl (rg_X6_has c0) (rg_isName c1) (by decide) (by decide))) ?_
      refine rx_k 1 (33, [(6, .int ((a1 * 20) + a2)), (0, .ref (b + 1)), (1, .int a1), (2, .int a2), (3, .int a3), (4, .int a4), (5, .int a5)], [.ref (b + 1)]) (fun _ _ => rfl) ?_
      refine rx_getf rfl rfl (wg_1 hP) rfl ?_
      refine rx_k 2 (40, [(6, .int ((a1 * 20) + a2)), (0, .ref (b + 1)), (1, .int a1), (2, .int a2), (3, .int a3), (4, .int a4), (5, .int a5)], [.int a4, .int ((a1 * 20) + a2), .ref (b + 6)]) (fun _ _ => rfl) ?_
      refine rx_ist rfl rfl (wg_6 hP) rfl (ar_at (i_mul_add 20 20 rfl (rg_X6_has c0) (rg_isName c1) (by decide) (by decide))) (ws_6 hP (i_mul_add 20 20 rfl (rg_X6_has c0) (rg_isName c1) (by decide) (by decide))) ?_
      refine rx_k 1 (42, [(6, .int ((a1 * 20) + a2)), (0, .ref (b + 1)), (1, .int a1), (2, .int a2), (3, .int a3), (4, .int a4), (5, .int a5)], [.ref (b + 1)]) (fun _ _ => rfl) ?_
      refine rx_getf rfl rfl (wg_1 hP) rfl ?_
      refine rx_k 2 (49, [(6, .int ((a1 * 20) + a2)), (0, .ref (b + 1)), (1, .int a1), (2, .int a2), (3, .int a3), (4, .int a4), (5, .int a5)], [.int a5, .int ((a1 * 20) + a2), .ref (b + 7)]) (fun _ _ => rfl) ?_
      refine rx_ist rfl rfl (wg_7 hP) rfl (ar_at (i_mul_add 20 20 rfl (rg_X6_has c0) (rg_isName c1) (by decide) (by decide))) (ws_7 hP (i_mul_add 20 20 rfl (rg_X6_has c0) (rg_isName c1) (by decide) (by decide))) ?_
      refine rx_k 1 (51, [(6, .int ((a1 * 20) + a2)), (0, .ref (b + 1)), (1, .int a1), (2, .int a2), (3, .int a3), (4, .int a4), (5, .int a5)], [.ref (b + 1)]) (fun _ _ => rfl) ?_
      refine rx_getf rfl rfl (wg_1 hP) rfl ?_
      refine rx_k 2 (56, [(6, .int ((a1 * 20) + a2)), (0, .ref (b + 1)), (1, .int a1), (2, .int a2), (3, .int a3), (4, .int a4), (5, .int a5)], [.int a1, .ref (b + 2), .int a1, .ref (b + 2)]) (fun _ _ => rfl) ?_
      refine rx_ild (x := (s 2 a1.toNatClampNeg)) rfl rfl (wg_2 hP) ((ar_at (rg_X6_has c0)).trans (congrArg (fun z => some (Value.int z)) (((rd_nk (by decide)).trans (rd_nk (by decide))).trans (rd_nk (by decide))))) ?_
      refine rx_k 4 (61, [(6, .int ((a1 * 20) + a2)), (0, .ref (b + 1)), (1, .int a1), (2, .int a2), (3, .int a3), (4, .int a4), (5, .int a5)], [.int ((s 2 a1.toNatClampNeg) ||| (1 <<< (a2 &&& 31))), .int a1, .ref (b + 2)]) (fun _ _ => rfl) ?_
      refine rx_ist rfl rfl (wg_2 hP) rfl (ar_at (rg_X6_has c0)) (ws_2 hP (rg_X6_has c0)) ?_
      refine rx_k 2 (64, [(6, .int ((a1 * 20) + a2)), (0, .ref (b + 1)), (1, .int a1), (2, .int a2), (3, .int a3), (4, .int a4), (5, .int a5)], [.int 2, .int a3]) (fun _ _ => rfl) ?_
      by_cases c2 : a3 = 2
      · refine rx_icT rfl (bt c2) ?_
        rw [(show (D_X6_addDefinition s a1 a2 a3 a4 a5) = (up (up (up (up s 5 ((a1 * 20) + a2).toNatClampNeg a3) 6 ((a1 * 20) + a2).toNatClampNeg a4) 7 ((a1 * 20) + a2).toNatClampNeg a5) 2 a1.toNatClampNeg ((s 2 a1.toNatClampNeg) ||| (1 <<< (a2 &&& 31)))) from ((if_neg c0).trans ((if_neg c1).trans ((if_pos c2).trans rfl))))]
        exact rx_rv rfl
      · refine rx_icF rfl (bf c2) rfl ?_
        refine rx_k 1 (68, [(6, .int ((a1 * 20) + a2)), (0, .ref (b + 1)), (1, .int a1), (2, .int a2), (3, .int a3), (4, .int a4), (5, .int a5)], [.ref (b + 1)]) (fun _ _ => rfl) ?_
        refine rx_getf rfl rfl (wg_1 hP) rfl ?_
        refine rx_k 2 (73, [(6, .int ((a1 * 20) + a2)), (0, .ref (b + 1)), (1, .int a1), (2, .int a2), (3, .int a3), (4, .int a4), (5, .int a5)], [.int a1, .ref (b + 3), .int a1, .ref (b + 3)]) (fun _ _ => rfl) ?_
        refine rx_ild (x := (s 3 a1.toNatClampNeg)) rfl rfl (wg_3 hP) ((ar_at (rg_X6_has c0)).trans (congrArg (fun z => some (Value.int z)) ((((rd_nk (by decide)).trans (rd_nk (by decide))).trans (rd_nk (by decide))).trans (rd_nk (by decide))))) ?_
        refine rx_k 4 (78, [(6, .int ((a1 * 20) + a2)), (0, .ref (b + 1)), (1, .int a1), (2, .int a2), (3, .int a3), (4, .int a4), (5, .int a5)], [.int ((s 3 a1.toNatClampNeg) ||| (1 <<< (a2 &&& 31))), .int a1, .ref (b + 3)]) (fun _ _ => rfl) ?_
        refine rx_ist rfl rfl (wg_3 hP) rfl (ar_at (rg_X6_has c0)) (ws_3 hP (rg_X6_has c0)) ?_
        rw [(show (D_X6_addDefinition s a1 a2 a3 a4 a5) = (up (up (up (up (up s 5 ((a1 * 20) + a2).toNatClampNeg a3) 6 ((a1 * 20) + a2).toNatClampNeg a4) 7 ((a1 * 20) + a2).toNatClampNeg a5) 2 a1.toNatClampNeg ((s 2 a1.toNatClampNeg) ||| (1 <<< (a2 &&& 31)))) 3 a1.toNatClampNeg ((s 3 a1.toNatClampNeg) ||| (1 <<< (a2 &&& 31)))) from ((if_neg c0).trans ((if_neg c1).trans ((if_neg c2).trans rfl))))]
        exact rx_rv rfl
theorem rc_X6_addDefinition (hP : WOK b w H0) {s : Sg} {a1 : Int32} {a2 : Int32} {a3 : Int32} {a4 : Int32} {a5 : Int32} (hN : NN s) : Rc sc 2 95 [.ref (b + 1), .int a1, .int a2, .int a3, .int a4, .int a5] (wd b w wl H0 s, kn) none (wd b w wl H0 (D_X6_addDefinition s a1 a2 a3 a4 a5), kn) := rx_mc (m_X6_addDefinition hP hN) rfl rfl (Nat.ble_eq_true_of_le (Nat.le_refl _)) (Nat.ble_eq_true_of_le (Nat.le_refl _))
theorem nn_X6_addDefinition {s : Sg} {a1 : Int32} {a2 : Int32} {a3 : Int32} {a4 : Int32} {a5 : Int32} (hN : NN s) : NN (D_X6_addDefinition s a1 a2 a3 a4 a5) := by
  by_cases c0 : (D_X6_has s a1) = 0
  · rw [show (D_X6_addDefinition s a1 a2 a3 a4 a5) = s from ((if_pos c0).trans rfl)]
    exact hN
  · by_cases c1 : (D_X11_isName a2) = 0
    · rw [show (D_X6_addDefinition s a1 a2 a3 a4 a5) = s from ((if_neg c0).trans ((if_pos c1).trans rfl))]
      exact hN
    · by_cases c2 : a3 = 2
      · rw [show (D_X6_addDefinition s a1 a2 a3 a4 a5) = (up (up (up (up s 5 ((a1 * 20) + a2).toNatClampNeg a3) 6 ((a1 * 20) + a2).toNatClampNeg a4) 7 ((a1 * 20) + a2).toNatClampNeg a5) 2 a1.toNatClampNeg ((s 2 a1.toNatClampNeg) ||| (1 <<< (a2 &&& 31)))) from ((if_neg c0).trans ((if_neg c1).trans ((if_pos c2).trans rfl)))]
        exact (nn_0 rfl (nn_0 rfl (nn_0 rfl (nn_0 rfl hN))))
      · rw [show (D_X6_addDefinition s a1 a2 a3 a4 a5) = (up (up (up (up (up s 5 ((a1 * 20) + a2).toNatClampNeg a3) 6 ((a1 * 20) + a2).toNatClampNeg a4) 7 ((a1 * 20) + a2).toNatClampNeg a5) 2 a1.toNatClampNeg ((s 2 a1.toNatClampNeg) ||| (1 <<< (a2 &&& 31)))) 3 a1.toNatClampNeg ((s 3 a1.toNatClampNeg) ||| (1 <<< (a2 &&& 31)))) from ((if_neg c0).trans ((if_neg c1).trans ((if_neg c2).trans rfl)))]
        exact (nn_0 rfl (nn_0 rfl (nn_0 rfl (nn_0 rfl (nn_0 rfl hN)))))
theorem fw_X6_addDefinition {s : Sg} {a1 : Int32} {a2 : Int32} {a3 : Int32} {a4 : Int32} {a5 : Int32} {k j : Nat} (h2 : k ≠ 2) (h3 : k ≠ 3) (h5 : k ≠ 5) (h6 : k ≠ 6) (h7 : k ≠ 7) : (D_X6_addDefinition s a1 a2 a3 a4 a5) k j = s k j := by
  by_cases c0 : (D_X6_has s a1) = 0
  · rw [show (D_X6_addDefinition s a1 a2 a3 a4 a5) = s from ((if_pos c0).trans rfl)]
    first | done | exact rfl
  · by_cases c1 : (D_X11_isName a2) = 0
    · rw [show (D_X6_addDefinition s a1 a2 a3 a4 a5) = s from ((if_neg c0).trans ((if_pos c1).trans rfl))]
      first | done | exact rfl
    · by_cases c2 : a3 = 2
      · rw [show (D_X6_addDefinition s a1 a2 a3 a4 a5) = (up (up (up (up s 5 ((a1 * 20) + a2).toNatClampNeg a3) 6 ((a1 * 20) + a2).toNatClampNeg a4) 7 ((a1 * 20) + a2).toNatClampNeg a5) 2 a1.toNatClampNeg ((s 2 a1.toNatClampNeg) ||| (1 <<< (a2 &&& 31)))) from ((if_neg c0).trans ((if_neg c1).trans ((if_pos c2).trans rfl)))]
        first | done | exact ((up_a h2).trans ((up_a h7).trans ((up_a h6).trans ((up_a h5).trans rfl))))
      · rw [show (D_X6_addDefinition s a1 a2 a3 a4 a5) = (up (up (up (up (up s 5 ((a1 * 20) + a2).toNatClampNeg a3) 6 ((a1 * 20) + a2).toNatClampNeg a4) 7 ((a1 * 20) + a2).toNatClampNeg a5) 2 a1.toNatClampNeg ((s 2 a1.toNatClampNeg) ||| (1 <<< (a2 &&& 31)))) 3 a1.toNatClampNeg ((s 3 a1.toNatClampNeg) ||| (1 <<< (a2 &&& 31)))) from ((if_neg c0).trans ((if_neg c1).trans ((if_neg c2).trans rfl)))]
        first | done | exact ((up_a h3).trans ((up_a h2).trans ((up_a h7).trans ((up_a h6).trans ((up_a h5).trans rfl)))))
-- LinkHarbour$ObjectTable.hide
noncomputable def D_X6_hide (s : Sg) (a1 : Int32) (a2 : Int32) : Sg := (if (D_X6_has s a1) = 0 then s else (up s 10 a1.toNatClampNeg ((s 10 a1.toNatClampNeg) ||| (1 <<< (a2 &&& 31)))))
theorem m_X6_hide (hP : WOK b w H0) {s : Sg} {a1 : Int32} {a2 : Int32} (hN : NN s) : Rx sc g_X6_hide 1 ((0, [(0, .ref (b + 1)), (1, .int a1), (2, .int a2)], [])) (wd b w wl H0 s, kn) none (wd b w wl H0 (D_X6_hide s a1 a2), kn) := by
  show Rx sc g_X6_hide 1 (0, [(0, .ref (b + 1)), (1, .int a1), (2, .int a2)], []) (wd b w wl H0 s, kn) none (wd b w wl H0 (D_X6_hide s a1 a2), kn)
  refine rx_k 2 (2, [(0, .ref (b + 1)), (1, .int a1), (2, .int a2)], [.int a1, .ref (b + 1)]) (fun _ _ => rfl) ?_
  refine rx_inv rfl rfl (rc_X6_has hP) rfl rfl rfl (q_recv (wg_1 hP)) rfl rfl ?_
  by_cases c0 : (D_X6_has s a1) = 0
  · refine rx_ifT rfl (bt c0) ?_
    rw [(show (D_X6_hide s a1 a2) = s from ((if_pos c0).trans rfl))]
    exact rx_rv rfl
  · refine rx_ifF rfl (bf c0) rfl ?_
    refine rx_k 1 (9, [(0, .ref (b + 1)), (1, .int a1), (2, .int a2)], [.ref (b + 1)]) (fun _ _ => rfl) ?_
    refine rx_getf rfl rfl (wg_1 hP) rfl ?_
    refine rx_k 2 (14, [(0, .ref (b + 1)), (1, .int a1), (2, .int a2)], [.int a1, .ref (b + 10), .int a1, .ref (b + 10)]) (fun _ _ => rfl) ?_
    refine rx_ild rfl rfl (wg_10 hP) (ar_at (rg_X6_has c0)) ?_
    refine rx_k 4 (19, [(0, .ref (b + 1)), (1, .int a1), (2, .int a2)], [.int ((s 10 a1.toNatClampNeg) ||| (1 <<< (a2 &&& 31))), .int a1, .ref (b + 10)]) (fun _ _ => rfl) ?_
    refine rx_ist rfl rfl (wg_10 hP) rfl (ar_at (rg_X6_has c0)) (ws_10 hP (rg_X6_has c0)) ?_
    rw [(show (D_X6_hide s a1 a2) = (up s 10 a1.toNatClampNeg ((s 10 a1.toNatClampNeg) ||| (1 <<< (a2 &&& 31)))) from ((if_neg c0).trans rfl))]
    exact rx_rv rfl
theorem rc_X6_hide (hP : WOK b w H0) {s : Sg} {a1 : Int32} {a2 : Int32} (hN : NN s) : Rc sc 2 96 [.ref (b + 1), .int a1, .int a2] (wd b w wl H0 s, kn) none (wd b w wl H0 (D_X6_hide s a1 a2), kn) := rx_mc (m_X6_hide hP hN) rfl rfl (Nat.ble_eq_true_of_le (Nat.le_refl _)) (Nat.ble_eq_true_of_le (Nat.le_refl _))
theorem nn_X6_hide {s : Sg} {a1 : Int32} {a2 : Int32} (hN : NN s) : NN (D_X6_hide s a1 a2) := by
  by_cases c0 : (D_X6_has s a1) = 0
  · rw [show (D_X6_hide s a1 a2) = s from ((if_pos c0).trans rfl)]
    exact hN
  · rw [show (D_X6_hide s a1 a2) = (up s 10 a1.toNatClampNeg ((s 10 a1.toNatClampNeg) ||| (1 <<< (a2 &&& 31)))) from ((if_neg c0).trans rfl)]
    exact (nn_0 rfl hN)
theorem fw_X6_hide {s : Sg} {a1 : Int32} {a2 : Int32} {k j : Nat} (h10 : k ≠ 10) : (D_X6_hide s a1 a2) k j = s k j := by
  by_cases c0 : (D_X6_has s a1) = 0
  · rw [show (D_X6_hide s a1 a2) = s from ((if_pos c0).trans rfl)]
    first | done | exact rfl
  · rw [show (D_X6_hide s a1 a2) = (up s 10 a1.toNatClampNeg ((s 10 a1.toNatClampNeg) ||| (1 <<< (a2 &&& 31)))) from ((if_neg c0).trans rfl)]
    first | done | exact ((up_a h10).trans rfl)
-- LinkHarbour$ObjectTable.addCommon
noncomputable def D_X6_addCommon (s : Sg) (a1 : Int32) (a2 : Int32) (a3 : Int32) (a4 : Int32) : Sg := (if (D_X6_has s a1) = 0 then s else (if (D_X11_isName a2) = 0 then s else (up (up (D_X6_addDefinition s a1 a2 1 (-1) (-1)) 8 ((a1 * 20) + a2).toNatClampNeg a3) 9 ((a1 * 20) + a2).toNatClampNeg a4)))
theorem m_X6_addCommon (hP : WOK b w H0) {s : Sg} {a1 : Int32} {a2 : Int32} {a3 : Int32} {a4 : Int32} (hN : NN s) : Rx sc g_X6_addCommon 2 ((0, [(0, .ref (b + 1)), (1, .int a1), (2, .int a2), (3, .int a3), (4, .int a4)], [])) (wd b w wl H0 s, kn) none (wd b w wl H0 (D_X6_addCommon s a1 a2 a3 a4), kn) := by
  show Rx sc g_X6_addCommon 2 (0, [(0, .ref (b + 1)), (1, .int a1), (2, .int a2), (3, .int a3), (4, .int a4)], []) (wd b w wl H0 s, kn) none (wd b w wl H0 (D_X6_addCommon s a1 a2 a3 a4), kn)
  refine rx_k 2 (2, [(0, .ref (b + 1)), (1, .int a1), (2, .int a2), (3, .int a3), (4, .int a4)], [.int a1, .ref (b + 1)]) (fun _ _ => rfl) ?_
  refine rx_inv rfl rfl (rc_X6_has hP) rfl rfl rfl (q_recv (wg_1 hP)) rfl rfl ?_
  by_cases c0 : (D_X6_has s a1) = 0
  · refine rx_ifT rfl (bt c0) ?_
    rw [(show (D_X6_addCommon s a1 a2 a3 a4) = s from ((if_pos c0).trans rfl))]
    exact rx_rv rfl
  · refine rx_ifF rfl (bf c0) rfl ?_
    refine rx_k 1 (9, [(0, .ref (b + 1)), (1, .int a1), (2, .int a2), (3, .int a3), (4, .int a4)], [.int a2]) (fun _ _ => rfl) ?_
    refine rx_inv rfl rfl (rc_X11_isName) rfl rfl rfl rfl rfl rfl ?_
    by_cases c1 : (D_X11_isName a2) = 0
    · refine rx_ifF rfl (nf c1) rfl ?_
      rw [(show (D_X6_addCommon s a1 a2 a3 a4) = s from ((if_neg c0).trans ((if_pos c1).trans rfl)))]
      exact rx_rv rfl
    · refine rx_ifT rfl (nt c1) ?_
      refine rx_k 6 (22, [(0, .ref (b + 1)), (1, .int a1), (2, .int a2), (3, .int a3), (4, .int a4)], [.int (-1), .int (-1), .int 1, .int a2, .int a1, .ref (b + 1)]) (fun _ _ => rfl) ?_
      refine rx_inv rfl rfl (rc_X6_addDefinition hP hN) rfl rfl rfl (q_recv (wg_1 hP)) rfl rfl ?_
      refine rx_k 1 (26, [(0, .ref (b + 1)), (1, .int a1), (2, .int a2), (3, .int a3), (4, .int a4)], [.ref (b + 1)]) (fun _ _ => rfl) ?_
      refine rx_getf rfl rfl (wg_1 hP) rfl ?_
      refine rx_k 6 (36, [(0, .ref (b + 1)), (1, .int a1), (2, .int a2), (3, .int a3), (4, .int a4)], [.int a3, .int ((a1 * 20) + a2), .ref (b + 8)]) (fun _ _ => rfl) ?_
      refine rx_ist rfl rfl (wg_8 hP) rfl (ar_at (i_mul_add 20 20 rfl (rg_X6_has c0) (rg_isName c1) (by decide) (by decide))) (ws_8 hP (i_mul_add 20 20 rfl (rg_X6_has c0) (rg_isName c1) (by decide) (by decide))) ?_
      refine rx_k 1 (38, [(0, .ref (b + 1)), (1, .int a1), (2, .int a2), (3, .int a3), (4, .int a4)], [.ref (b + 1)]) (fun _ _ => rfl) ?_
      refine rx_getf rfl rfl (wg_1 hP) rfl ?_
      refine rx_k 6 (49, [(0, .ref (b + 1)), (1, .int a1), (2, .int a2), (3, .int a3), (4, .int a4)], [.int a4, .int ((a1 * 20) + a2), .ref (b + 9)]) (fun _ _ => rfl) ?_
      refine rx_ist rfl rfl (wg_9 hP) rfl (ar_at (i_mul_add 20 20 rfl (rg_X6_has c0) (rg_isName c1) (by decide) (by decide))) (ws_9 hP (i_mul_add 20 20 rfl (rg_X6_has c0) (rg_isName c1) (by decide) (by decide))) ?_
      rw [(show (D_X6_addCommon s a1 a2 a3 a4) = (up (up (D_X6_addDefinition s a1 a2 1 (-1) (-1)) 8 ((a1 * 20) + a2).toNatClampNeg a3) 9 ((a1 * 20) + a2).toNatClampNeg a4) from ((if_neg c0).trans ((if_neg c1).trans rfl)))]
      exact rx_rv rfl
theorem rc_X6_addCommon (hP : WOK b w H0) {s : Sg} {a1 : Int32} {a2 : Int32} {a3 : Int32} {a4 : Int32} (hN : NN s) : Rc sc 3 97 [.ref (b + 1), .int a1, .int a2, .int a3, .int a4] (wd b w wl H0 s, kn) none (wd b w wl H0 (D_X6_addCommon s a1 a2 a3 a4), kn) := rx_mc (m_X6_addCommon hP hN) rfl rfl (Nat.ble_eq_true_of_le (Nat.le_refl _)) (Nat.ble_eq_true_of_le (Nat.le_refl _))
theorem nn_X6_addCommon {s : Sg} {a1 : Int32} {a2 : Int32} {a3 : Int32} {a4 : Int32} (hN : NN s) : NN (D_X6_addCommon s a1 a2 a3 a4) := by
  by_cases c0 : (D_X6_has s a1) = 0
  · rw [show (D_X6_addCommon s a1 a2 a3 a4) = s from ((if_pos c0).trans rfl)]
    exact hN
  · by_cases c1 : (D_X11_isName a2) = 0
    · rw [show (D_X6_addCommon s a1 a2 a3 a4) = s from ((if_neg c0).trans ((if_pos c1).trans rfl))]
      exact hN
    · rw [show (D_X6_addCommon s a1 a2 a3 a4) = (up (up (D_X6_addDefinition s a1 a2 1 (-1) (-1)) 8 ((a1 * 20) + a2).toNatClampNeg a3) 9 ((a1 * 20) + a2).toNatClampNeg a4) from ((if_neg c0).trans ((if_neg c1).trans rfl))]
      exact (nn_0 rfl (nn_0 rfl (nn_X6_addDefinition hN)))
theorem fw_X6_addCommon {s : Sg} {a1 : Int32} {a2 : Int32} {a3 : Int32} {a4 : Int32} {k j : Nat} (h2 : k ≠ 2) (h3 : k ≠ 3) (h5 : k ≠ 5) (h6 : k ≠ 6) (h7 : k ≠ 7) (h8 : k ≠ 8) (h9 : k ≠ 9) : (D_X6_addCommon s a1 a2 a3 a4) k j = s k j := by
  by_cases c0 : (D_X6_has s a1) = 0
  · rw [show (D_X6_addCommon s a1 a2 a3 a4) = s from ((if_pos c0).trans rfl)]
    first | done | exact rfl
  · by_cases c1 : (D_X11_isName a2) = 0
    · rw [show (D_X6_addCommon s a1 a2 a3 a4) = s from ((if_neg c0).trans ((if_pos c1).trans rfl))]
      first | done | exact rfl
    · rw [show (D_X6_addCommon s a1 a2 a3 a4) = (up (up (D_X6_addDefinition s a1 a2 1 (-1) (-1)) 8 ((a1 * 20) + a2).toNatClampNeg a3) 9 ((a1 * 20) + a2).toNatClampNeg a4) from ((if_neg c0).trans ((if_neg c1).trans rfl))]
      first | done | exact ((up_a h9).trans ((up_a h8).trans ((fw_X6_addDefinition h2 h3 h5 h6 h7).trans rfl)))
-- LinkHarbour$Reaching.countSections
noncomputable def D_X7_countSections (q : Nat) (s : Sg) : Int32 := (s (q + 12) 4)
theorem m_X7_countSections (hP : WOK b w H0) {q : Nat} (hq : q = 38 ∨ q = 60) {s : Sg} : Rx sc g_X7_countSections 0 ((0, [(0, .ref (b + (q + 12)))], [])) (wd b w wl H0 s, kn) (some (.int (D_X7_countSections q s))) (wd b w wl H0 s, kn) := by
  show Rx sc g_X7_countSections 0 (0, [(0, .ref (b + (q + 12)))], []) (wd b w wl H0 s, kn) (some (.int (D_X7_countSections q s))) (wd b w wl H0 s, kn)
  refine rx_k 1 (1, [(0, .ref (b + (q + 12)))], [.ref (b + (q + 12))]) (fun _ _ => rfl) ?_
  refine rx_getf rfl rfl (wl_12 hP hq) rfl ?_
  rw [(show (D_X7_countSections q s) = (s (q + 12) 4) from rfl)]
  exact rx_ri rfl
theorem rc_X7_countSections (hP : WOK b w H0) {q : Nat} (hq : q = 38 ∨ q = 60) {s : Sg} : Rc sc 1 107 [.ref (b + (q + 12))] (wd b w wl H0 s, kn) (some (.int (D_X7_countSections q s))) (wd b w wl H0 s, kn) := rx_mc (m_X7_countSections hP hq) rfl rfl (Nat.ble_eq_true_of_le (Nat.le_refl _)) (Nat.ble_eq_true_of_le (Nat.le_refl _))
-- LinkHarbour$Reaching.references
noncomputable def D_X7_references (q : Nat) (s : Sg) (a1 : Int32) : Int32 := (if (D_X11_isName a1) = 0 then 0 else (s (q + 14) a1.toNatClampNeg))
theorem m_X7_references (hP : WOK b w H0) {q : Nat} (hq : q = 38 ∨ q = 60) {s : Sg} {a1 : Int32} : Rx sc g_X7_references 1 ((0, [(0, .ref (b + (q + 12))), (1, .int a1)], [])) (wd b w wl H0 s, kn) (some (.int (D_X7_references q s a1))) (wd b w wl H0 s, kn) := by
  show Rx sc g_X7_references 1 (0, [(0, .ref (b + (q + 12))), (1, .int a1)], []) (wd b w wl H0 s, kn) (some (.int (D_X7_references q s a1))) (wd b w wl H0 s, kn)
  refine rx_k 1 (1, [(0, .ref (b + (q + 12))), (1, .int a1)], [.int a1]) (fun _ _ => rfl) ?_
  refine rx_inv rfl rfl (rc_X11_isName) rfl rfl rfl rfl rfl rfl ?_
  by_cases c0 : (D_X11_isName a1) = 0
  · refine rx_ifT rfl (bt c0) ?_
    refine rx_k 1 (17, [(0, .ref (b + (q + 12))), (1, .int a1)], [.int 0]) (fun _ _ => rfl) ?_
    rw [(show (D_X7_references q s a1) = 0 from ((if_pos c0).trans rfl))]
    exact rx_ri rfl
  · refine rx_ifF rfl (bf c0) rfl ?_
    refine rx_k 1 (8, [(0, .ref (b + (q + 12))), (1, .int a1)], [.ref (b + (q + 12))]) (fun _ _ => rfl) ?_
    refine rx_getf rfl rfl (wl_12 hP hq) rfl ?_
    refine rx_k 1 (12, [(0, .ref (b + (q + 12))), (1, .int a1)], [.int a1, .ref (b + (q + 14))]) (fun _ _ => rfl) ?_
    refine rx_ild rfl rfl (wl_14 hP hq) (ar_at (rg_isName c0)) ?_
    refine rx_k 1 (17, [(0, .ref (b + (q + 12))), (1, .int a1)], [.int (s (q + 14) a1.toNatClampNeg)]) (fun _ _ => rfl) ?_
    rw [(show (D_X7_references q s a1) = (s (q + 14) a1.toNatClampNeg) from ((if_neg c0).trans rfl))]
    exact rx_ri rfl
theorem rc_X7_references (hP : WOK b w H0) {q : Nat} (hq : q = 38 ∨ q = 60) {s : Sg} {a1 : Int32} : Rc sc 2 110 [.ref (b + (q + 12)), .int a1] (wd b w wl H0 s, kn) (some (.int (D_X7_references q s a1))) (wd b w wl H0 s, kn) := rx_mc (m_X7_references hP hq) rfl rfl (Nat.ble_eq_true_of_le (Nat.le_refl _)) (Nat.ble_eq_true_of_le (Nat.le_refl _))
-- LinkHarbour$SectionTable.isFull
noncomputable def D_X8_isFull (s : Sg) : Int32 := (if (s 11 8) < 24 then 0 else 1)
theorem m_X8_isFull (hP : WOK b w H0) {s : Sg} : Rx sc g_X8_isFull 0 ((0, [(0, .ref (b + 11))], [])) (wd b w wl H0 s, kn) (some (.int (D_X8_isFull s))) (wd b w wl H0 s, kn) := by
  show Rx sc g_X8_isFull 0 (0, [(0, .ref (b + 11))], []) (wd b w wl H0 s, kn) (some (.int (D_X8_isFull s))) (wd b w wl H0 s, kn)
  refine rx_k 1 (1, [(0, .ref (b + 11))], [.ref (b + 11)]) (fun _ _ => rfl) ?_
  refine rx_getf rfl rfl (wg_11 hP) rfl ?_
  refine rx_k 1 (6, [(0, .ref (b + 11))], [.int 24, .int (s 11 8)]) (fun _ _ => rfl) ?_
  by_cases c0 : (s 11 8) < 24
  · refine rx_icT rfl (bt c0) ?_
    refine rx_k 1 (14, [(0, .ref (b + 11))], [.int 0]) (fun _ _ => rfl) ?_
    rw [(show (D_X8_isFull s) = 0 from ((if_pos c0).trans rfl))]
    exact rx_ri rfl
  · refine rx_icF rfl (bf c0) rfl ?_
    refine rx_k 2 (14, [(0, .ref (b + 11))], [.int 1]) (fun _ _ => rfl) ?_
    rw [(show (D_X8_isFull s) = 1 from ((if_neg c0).trans rfl))]
    exact rx_ri rfl
theorem bz_X8_isFull {s : Sg} : bz (D_X8_isFull s) = true := by
  by_cases c0 : (s 11 8) < 24
  · rw [show (D_X8_isFull s) = 0 from ((if_pos c0).trans rfl)]
    exact rfl
  · rw [show (D_X8_isFull s) = 1 from ((if_neg c0).trans rfl)]
    exact rfl
theorem rc_X8_isFull (hP : WOK b w H0) {s : Sg} : Rc sc 1 118 [.ref (b + 11)] (wd b w wl H0 s, kn) (some (.int (D_X8_isFull s))) (wd b w wl H0 s, kn) := rx_mc (m_X8_isFull hP) rfl (bz_X8_isFull ..) (Nat.ble_eq_true_of_le (Nat.le_refl _)) (Nat.ble_eq_true_of_le (Nat.le_refl _))
theorem nf_X8_isFull {s : Sg} (h : D_X8_isFull s = 0) : ¬ 24 ≤ s 11 8 := by
  unfold D_X8_isFull at h
  split at h
  · exact Int32.not_le.mpr (by assumption)
  · cases h
-- LinkHarbour$SectionTable.add
noncomputable def D_X8_add (s : Sg) (a1 : Int32) (a2 : Int32) (a3 : Int32) : Int32 × Sg := (if (D_X8_isFull s) = 0 then ((((s 11 8) + 1) - 1), (up (up (up (up s 12 (s 11 8).toNatClampNeg a1) 13 (s 11 8).toNatClampNeg a2) 14 (s 11 8).toNatClampNeg a3) 11 8 ((s 11 8) + 1))) else ((-1), s))
theorem m_X8_add (hP : WOK b w H0) {s : Sg} {a1 : Int32} {a2 : Int32} {a3 : Int32} (hN : NN s) (za3 : bz a3 = true) : Rx sc g_X8_add 1 ((0, [(0, .ref (b + 11)), (1, .int a1), (2, .int a2), (3, .int a3)], [])) (wd b w wl H0 s, kn) (some (.int (D_X8_add s a1 a2 a3).1)) (wd b w wl H0 (D_X8_add s a1 a2 a3).2, kn) := by
  show Rx sc g_X8_add 1 (0, [(0, .ref (b + 11)), (1, .int a1), (2, .int a2), (3, .int a3)], []) (wd b w wl H0 s, kn) (some (.int (D_X8_add s a1 a2 a3).1)) (wd b w wl H0 (D_X8_add s a1 a2 a3).2, kn)
  refine rx_k 1 (1, [(0, .ref (b + 11)), (1, .int a1), (2, .int a2), (3, .int a3)], [.ref (b + 11)]) (fun _ _ => rfl) ?_
  refine rx_inv rfl rfl (rc_X8_isFull hP) rfl rfl rfl (q_recv (wg_11 hP)) rfl rfl ?_
  by_cases c0 : (D_X8_isFull s) = 0
  · refine rx_ifT rfl (bt c0) ?_
    refine rx_k 1 (10, [(0, .ref (b + 11)), (1, .int a1), (2, .int a2), (3, .int a3)], [.ref (b + 11)]) (fun _ _ => rfl) ?_
    refine rx_getf rfl rfl (wg_11 hP) rfl ?_
    refine rx_k 1 (14, [(0, .ref (b + 11)), (1, .int a1), (2, .int a2), (3, .int a3)], [.ref (b + 11), .ref (b + 12)]) (fun _ _ => rfl) ?_
    refine rx_getf rfl rfl (wg_11 hP) rfl ?_
    refine rx_k 1 (18, [(0, .ref (b + 11)), (1, .int a1), (2, .int a2), (3, .int a3)], [.int a1, .int (s 11 8), .ref (b + 12)]) (fun _ _ => rfl) ?_
    refine rx_ist rfl rfl (wg_12 hP) rfl (ar_at (rg_c (hN 11 8 rfl) (nf_X8_isFull c0) (m := 24) (n := 24) rfl)) (ws_12 hP (rg_c (hN 11 8 rfl) (nf_X8_isFull c0) (m := 24) (n := 24) rfl)) ?_
    refine rx_k 1 (20, [(0, .ref (b + 11)), (1, .int a1), (2, .int a2), (3, .int a3)], [.ref (b + 11)]) (fun _ _ => rfl) ?_
    refine rx_getf rfl rfl (wg_11 hP) rfl ?_
    refine rx_k 1 (24, [(0, .ref (b + 11)), (1, .int a1), (2, .int a2), (3, .int a3)], [.ref (b + 11), .ref (b + 13)]) (fun _ _ => rfl) ?_
    refine rx_getf (v := .int (s 11 8)) rfl rfl (wg_11 hP) (congrArg (fun z => some (Value.int z)) (rd_nk (by decide))) ?_
    refine rx_k 1 (28, [(0, .ref (b + 11)), (1, .int a1), (2, .int a2), (3, .int a3)], [.int a2, .int (s 11 8), .ref (b + 13)]) (fun _ _ => rfl) ?_
    refine rx_ist rfl rfl (wg_13 hP) rfl (ar_at (rg_c (hN 11 8 rfl) (nf_X8_isFull c0) (m := 24) (n := 24) rfl)) (ws_13 hP (rg_c (hN 11 8 rfl) (nf_X8_isFull c0) (m := 24) (n := 24) rfl)) ?_
    refine rx_k 1 (30, [(0, .ref (b + 11)), (1, .int a1), (2, .int a2), (3, .int a3)], [.ref (b + 11)]) (fun _ _ => rfl) ?_
    refine rx_getf rfl rfl (wg_11 hP) rfl ?_
    refine rx_k 1 (34, [(0, .ref (b + 11)), (1, .int a1), (2, .int a2), (3, .int a3)], [.ref (b + 11), .ref (b + 14)]) (fun _ _ => rfl) ?_
    refine rx_getf (v := .int (s 11 8)) rfl rfl (wg_11 hP) (congrArg (fun z => some (Value.int z)) ((rd_nk (by decide)).trans (rd_nk (by decide)))) ?_
    refine rx_k 1 (38, [(0, .ref (b + 11)), (1, .int a1), (2, .int a2), (3, .int a3)], [.int a3, .int (s 11 8), .ref (b + 14)]) (fun _ _ => rfl) ?_
    refine rx_ist rfl rfl (wg_14 hP) (fitb za3) (ar_at (rg_c (hN 11 8 rfl) (nf_X8_isFull c0) (m := 24) (n := 24) rfl)) (ws_14 hP (rg_c (hN 11 8 rfl) (nf_X8_isFull c0) (m := 24) (n := 24) rfl)) ?_
    refine rx_k 2 (41, [(0, .ref (b + 11)), (1, .int a1), (2, .int a2), (3, .int a3)], [.ref (b + 11), .ref (b + 11)]) (fun _ _ => rfl) ?_
    refine rx_getf (v := .int (s 11 8)) rfl rfl (wg_11 hP) (congrArg (fun z => some (Value.int z)) (((rd_nk (by decide)).trans (rd_nk (by decide))).trans (rd_nk (by decide)))) ?_
    refine rx_k 2 (46, [(0, .ref (b + 11)), (1, .int a1), (2, .int a2), (3, .int a3)], [.int ((s 11 8) + 1), .ref (b + 11)]) (fun _ _ => rfl) ?_
    refine rx_putf rfl rfl (wg_11 hP) rfl (ws_11_8 hP) ?_
    refine rx_k 1 (50, [(0, .ref (b + 11)), (1, .int a1), (2, .int a2), (3, .int a3)], [.ref (b + 11)]) (fun _ _ => rfl) ?_
    refine rx_getf (v := .int ((s 11 8) + 1)) rfl rfl (wg_11 hP) (congrArg (fun z => some (Value.int z)) rd_eq) ?_
    refine rx_k 2 (55, [(0, .ref (b + 11)), (1, .int a1), (2, .int a2), (3, .int a3)], [.int (((s 11 8) + 1) - 1)]) (fun _ _ => rfl) ?_
    rw [(show (D_X8_add s a1 a2 a3) = ((((s 11 8) + 1) - 1), (up (up (up (up s 12 (s 11 8).toNatClampNeg a1) 13 (s 11 8).toNatClampNeg a2) 14 (s 11 8).toNatClampNeg a3) 11 8 ((s 11 8) + 1))) from ((if_pos c0).trans rfl))]
    exact rx_ri rfl
  · refine rx_ifF rfl (bf c0) rfl ?_
    refine rx_k 1 (8, [(0, .ref (b + 11)), (1, .int a1), (2, .int a2), (3, .int a3)], [.int (-1)]) (fun _ _ => rfl) ?_
    rw [(show (D_X8_add s a1 a2 a3) = ((-1), s) from ((if_neg c0).trans rfl))]
    exact rx_ri rfl
theorem rc_X8_add (hP : WOK b w H0) {s : Sg} {a1 : Int32} {a2 : Int32} {a3 : Int32} (hN : NN s) (za3 : bz a3 = true) : Rc sc 2 120 [.ref (b + 11), .int a1, .int a2, .int a3] (wd b w wl H0 s, kn) (some (.int (D_X8_add s a1 a2 a3).1)) (wd b w wl H0 (D_X8_add s a1 a2 a3).2, kn) := rx_mc (m_X8_add hP hN za3) rfl rfl (Nat.ble_eq_true_of_le (Nat.le_refl _)) (Nat.ble_eq_true_of_le (Nat.le_refl _))
theorem nn_X8_add {s : Sg} {a1 : Int32} {a2 : Int32} {a3 : Int32} (hN : NN s) : NN (D_X8_add s a1 a2 a3).2 := by
  by_cases c0 : (D_X8_isFull s) = 0
  · exact pair_of (P := fun zs => NN zs) (show (D_X8_add s a1 a2 a3) = ((((s 11 8) + 1) - 1), (up (up (up (up s 12 (s 11 8).toNatClampNeg a1) 13 (s 11 8).toNatClampNeg a2) 14 (s 11 8).toNatClampNeg a3) 11 8 ((s 11 8) + 1))) from ((if_pos c0).trans rfl)) (nn_c (nn_inc (rg_c (hN 11 8 rfl) (nf_X8_isFull c0) (m := 24) (n := 24) rfl).1 (lt_nle (nf_X8_isFull c0)) (by decide)) (nn_0 rfl (nn_0 rfl (nn_0 rfl hN))))
  · exact pair_of (P := fun zs => NN zs) (show (D_X8_add s a1 a2 a3) = ((-1), s) from ((if_neg c0).trans rfl)) hN
theorem fw_X8_add {s : Sg} {a1 : Int32} {a2 : Int32} {a3 : Int32} {k j : Nat} (h11f8 : k ≠ 11 ∨ j ≠ 8) (h12 : k ≠ 12) (h13 : k ≠ 13) (h14 : k ≠ 14) : (D_X8_add s a1 a2 a3).2 k j = s k j := by
  by_cases c0 : (D_X8_isFull s) = 0
  · exact pair_of (P := fun zs => zs k j = s k j) (show (D_X8_add s a1 a2 a3) = ((((s 11 8) + 1) - 1), (up (up (up (up s 12 (s 11 8).toNatClampNeg a1) 13 (s 11 8).toNatClampNeg a2) 14 (s 11 8).toNatClampNeg a3) 11 8 ((s 11 8) + 1))) from ((if_pos c0).trans rfl)) ((up_f h11f8).trans ((up_a h14).trans ((up_a h13).trans ((up_a h12).trans rfl))))
  · exact pair_of (P := fun zs => zs k j = s k j) (show (D_X8_add s a1 a2 a3) = ((-1), s) from ((if_neg c0).trans rfl)) rfl
-- LinkHarbour$SectionTable.isFilled
noncomputable def D_X8_isFilled (s : Sg) (a1 : Int32) : Int32 := (if (D_X8_pieces s a1) < 8 then 0 else 1)
theorem m_X8_isFilled (hP : WOK b w H0) {s : Sg} {a1 : Int32} : Rx sc g_X8_isFilled 2 ((0, [(0, .ref (b + 11)), (1, .int a1)], [])) (wd b w wl H0 s, kn) (some (.int (D_X8_isFilled s a1))) (wd b w wl H0 s, kn) := by
  show Rx sc g_X8_isFilled 2 (0, [(0, .ref (b + 11)), (1, .int a1)], []) (wd b w wl H0 s, kn) (some (.int (D_X8_isFilled s a1))) (wd b w wl H0 s, kn)
  refine rx_k 2 (2, [(0, .ref (b + 11)), (1, .int a1)], [.int a1, .ref (b + 11)]) (fun _ _ => rfl) ?_
  refine rx_inv rfl rfl (rc_X8_pieces hP) rfl rfl rfl (q_recv (wg_11 hP)) rfl rfl ?_
  refine rx_k 1 (7, [(0, .ref (b + 11)), (1, .int a1)], [.int 8, .int (D_X8_pieces s a1)]) (fun _ _ => rfl) ?_
  by_cases c0 : (D_X8_pieces s a1) < 8
  · refine rx_icT rfl (bt c0) ?_
    refine rx_k 1 (15, [(0, .ref (b + 11)), (1, .int a1)], [.int 0]) (fun _ _ => rfl) ?_
    rw [(show (D_X8_isFilled s a1) = 0 from ((if_pos c0).trans rfl))]
    exact rx_ri rfl
  · refine rx_icF rfl (bf c0) rfl ?_
    refine rx_k 2 (15, [(0, .ref (b + 11)), (1, .int a1)], [.int 1]) (fun _ _ => rfl) ?_
    rw [(show (D_X8_isFilled s a1) = 1 from ((if_neg c0).trans rfl))]
    exact rx_ri rfl
theorem bz_X8_isFilled {s : Sg} {a1 : Int32} : bz (D_X8_isFilled s a1) = true := by
  by_cases c0 : (D_X8_pieces s a1) < 8
  · rw [show (D_X8_isFilled s a1) = 0 from ((if_pos c0).trans rfl)]
    exact rfl
  · rw [show (D_X8_isFilled s a1) = 1 from ((if_neg c0).trans rfl)]
    exact rfl
theorem rc_X8_isFilled (hP : WOK b w H0) {s : Sg} {a1 : Int32} : Rc sc 3 121 [.ref (b + 11), .int a1] (wd b w wl H0 s, kn) (some (.int (D_X8_isFilled s a1))) (wd b w wl H0 s, kn) := rx_mc (m_X8_isFilled hP) rfl (bz_X8_isFilled ..) (Nat.ble_eq_true_of_le (Nat.le_refl _)) (Nat.ble_eq_true_of_le (Nat.le_refl _))
theorem nf_X8_isFilled {s : Sg} {a : Int32} (h1 : ¬ D_X8_has s a = 0) (h : D_X8_isFilled s a = 0) : ¬ 8 ≤ s 15 a.toNatClampNeg := by
  unfold D_X8_isFilled D_X8_pieces at h
  rw [if_neg h1] at h
  split at h
  · exact Int32.not_le.mpr (by assumption)
  · cases h
-- LinkHarbour$SectionTable.addPiece
noncomputable def D_X8_addPiece (s : Sg) (a1 : Int32) (a2 : Int32) (a3 : Int32) (a4 : Int32) (a5 : Int32) : Int32 × Sg := (if (D_X8_has s a1) = 0 then ((-1), s) else (if (D_X8_isFilled s a1) = 0 then ((s 15 a1.toNatClampNeg), (up (up (up (up (up s 16 ((a1 * 8) + (s 15 a1.toNatClampNeg)).toNatClampNeg a2) 17 ((a1 * 8) + (s 15 a1.toNatClampNeg)).toNatClampNeg a3) 18 ((a1 * 8) + (s 15 a1.toNatClampNeg)).toNatClampNeg a4) 19 ((a1 * 8) + (s 15 a1.toNatClampNeg)).toNatClampNeg a5) 15 a1.toNatClampNeg ((s 15 a1.toNatClampNeg) + 1))) else ((-1), s)))
theorem m_X8_addPiece (hP : WOK b w H0) {s : Sg} {a1 : Int32} {a2 : Int32} {a3 : Int32} {a4 : Int32} {a5 : Int32} (hN : NN s) (za5 : bz a5 = true) : Rx sc g_X8_addPiece 3 ((0, [(0, .ref (b + 11)), (1, .int a1), (2, .int a2), (3, .int a3), (4, .int a4), (5, .int a5)], [])) (wd b w wl H0 s, kn) (some (.int (D_X8_addPiece s a1 a2 a3 a4 a5).1)) (wd b w wl H0 (D_X8_addPiece s a1 a2 a3 a4 a5).2, kn) := by
  show Rx sc g_X8_addPiece 3 (0, [(0, .ref (b + 11)), (1, .int a1), (2, .int a2), (3, .int a3), (4, .int a4), (5, .int a5)], []) (wd b w wl H0 s, kn) (some (.int (D_X8_addPiece s a1 a2 a3 a4 a5).1)) (wd b w wl H0 (D_X8_addPiece s a1 a2 a3 a4 a5).2, kn)
  refine rx_k 2 (2, [(0, .ref (b + 11)), (1, .int a1), (2, .int a2), (3, .int a3), (4, .int a4), (5, .int a5)], [.int a1, .ref (b + 11)]) (fun _ _ => rfl) ?_
  refine rx_inv rfl rfl (rc_X8_has hP) rfl rfl rfl (q_recv (wg_11 hP)) rfl rfl ?_
  by_cases c0 : (D_X8_has s a1) = 0
  · refine rx_ifT rfl (bt c0) ?_
    refine rx_k 1 (17, [(0, .ref (b + 11)), (1, .int a1), (2, .int a2), (3, .int a3), (4, .int a4), (5, .int a5)], [.int (-1)]) (fun _ _ => rfl) ?_
    rw [(show (D_X8_addPiece s a1 a2 a3 a4 a5) = ((-1), s) from ((if_pos c0).trans rfl))]
    exact rx_ri rfl
  · refine rx_ifF rfl (bf c0) rfl ?_
    refine rx_k 2 (10, [(0, .ref (b + 11)), (1, .int a1), (2, .int a2), (3, .int a3), (4, .int a4), (5, .int a5)], [.int a1, .ref (b + 11)]) (fun _ _ => rfl) ?_
    refine rx_inv rfl rfl (rc_X8_isFilled hP) rfl rfl rfl (q_recv (wg_11 hP)) rfl rfl ?_
    by_cases c1 : (D_X8_isFilled s a1) = 0
    · refine rx_ifT rfl (bt c1) ?_
      refine rx_k 1 (19, [(0, .ref (b + 11)), (1, .int a1), (2, .int a2), (3, .int a3), (4, .int a4), (5, .int a5)], [.ref (b + 11)]) (fun _ _ => rfl) ?_
      refine rx_getf rfl rfl (wg_11 hP) rfl ?_
      refine rx_k 1 (23, [(0, .ref (b + 11)), (1, .int a1), (2, .int a2), (3, .int a3), (4, .int a4), (5, .int a5)], [.int a1, .ref (b + 15)]) (fun _ _ => rfl) ?_
      refine rx_ild rfl rfl (wg_15 hP) (ar_at (rg_X8_has c0)) ?_
      refine rx_k 8 (36, [(7, .int ((a1 * 8) + (s 15 a1.toNatClampNeg))), (6, .int (s 15 a1.toNatClampNeg)), (0, .ref (b + 11)), (1, .int a1), (2, .int a2), (3, .int a3), (4, .int a4), (5, .int a5)], [.ref (b + 11)]) (fun _ _ => rfl) ?_
      refine rx_getf rfl rfl (wg_11 hP) rfl ?_
      refine rx_k 2 (42, [(7, .int ((a1 * 8) + (s 15 a1.toNatClampNeg))), (6, .int (s 15 a1.toNatClampNeg)), (0, .ref (b + 11)), (1, .int a1), (2, .int a2), (3, .int a3), (4, .int a4), (5, .int a5)], [.int a2, .int ((a1 * 8) + (s 15 a1.toNatClampNeg)), .ref (b + 16)]) (fun _ _ => rfl) ?_
      refine rx_ist rfl rfl (wg_16 hP) rfl (ar_at (i_mul_add 8 8 rfl (rg_X8_has c0) (rg_c (hN 15 a1.toNatClampNeg rfl) (nf_X8_isFilled c0 c1) (m := 8) (n := 8) rfl) (by decide) (by decide))) (ws_16 hP (i_mul_add 8 8 rfl (rg_X8_has c0) (rg_c (hN 15 a1.toNatClampNeg rfl) (nf_X8_isFilled c0 c1) (m := 8) (n := 8) rfl) (by decide) (by decide))) ?_
      refine rx_k 1 (44, [(7, .int ((a1 * 8) + (s 15 a1.toNatClampNeg))), (6, .int (s 15 a1.toNatClampNeg)), (0, .ref (b + 11)), (1, .int a1), (2, .int a2), (3, .int a3), (4, .int a4), (5, .int a5)], [.ref (b + 11)]) (fun _ _ => rfl) ?_
      refine rx_getf rfl rfl (wg_11 hP) rfl ?_
      refine rx_k 2 (50, [(7, .int ((a1 * 8) + (s 15 a1.toNatClampNeg))), (6, .int (s 15 a1.toNatClampNeg)), (0, .ref (b + 11)), (1, .int a1), (2, .int a2), (3, .int a3), (4, .int a4), (5, .int a5)], [.int a3, .int ((a1 * 8) + (s 15 a1.toNatClampNeg)), .ref (b + 17)]) (fun _ _ => rfl) ?_
      refine rx_ist rfl rfl (wg_17 hP) rfl (ar_at (i_mul_add 8 8 rfl (rg_X8_has c0) (rg_c (hN 15 a1.toNatClampNeg rfl) (nf_X8_isFilled c0 c1) (m := 8) (n := 8) rfl) (by decide) (by decide))) (ws_17 hP (i_mul_add 8 8 rfl (rg_X8_has c0) (rg_c (hN 15 a1.toNatClampNeg rfl) (nf_X8_isFilled c0 c1) (m := 8) (n := 8) rfl) (by decide) (by decide))) ?_
      refine rx_k 1 (52, [(7, .int ((a1 * 8) + (s 15 a1.toNatClampNeg))), (6, .int (s 15 a1.toNatClampNeg)), (0, .ref (b + 11)), (1, .int a1), (2, .int a2), (3, .int a3), (4, .int a4), (5, .int a5)], [.ref (b + 11)]) (fun _ _ => rfl) ?_
      refine rx_getf rfl rfl (wg_11 hP) rfl ?_
      refine rx_k 2 (59, [(7, .int ((a1 * 8) + (s 15 a1.toNatClampNeg))), (6, .int (s 15 a1.toNatClampNeg)), (0, .ref (b + 11)), (1, .int a1), (2, .int a2), (3, .int a3), (4, .int a4), (5, .int a5)], [.int a4, .int ((a1 * 8) + (s 15 a1.toNatClampNeg)), .ref (b + 18)]) (fun _ _ => rfl) ?_
      refine rx_ist rfl rfl (wg_18 hP) rfl (ar_at (i_mul_add 8 8 rfl (rg_X8_has c0) (rg_c (hN 15 a1.toNatClampNeg rfl) (nf_X8_isFilled c0 c1) (m := 8) (n := 8) rfl) (by decide) (by decide))) (ws_18 hP (i_mul_add 8 8 rfl (rg_X8_has c0) (rg_c (hN 15 a1.toNatClampNeg rfl) (nf_X8_isFilled c0 c1) (m := 8) (n := 8) rfl) (by decide) (by decide))) ?_
      refine rx_k 1 (61, [(7, .int ((a1 * 8) + (s 15 a1.toNatClampNeg))), (6, .int (s 15 a1.toNatClampNeg)), (0, .ref (b + 11)), (1, .int a1), (2, .int a2), (3, .int a3), (4, .int a4), (5, .int a5)], [.ref (b + 11)]) (fun _ _ => rfl) ?_
      refine rx_getf rfl rfl (wg_11 hP) rfl ?_
      refine rx_k 2 (68, [(7, .int ((a1 * 8) + (s 15 a1.toNatClampNeg))), (6, .int (s 15 a1.toNatClampNeg)), (0, .ref (b + 11)), (1, .int a1), (2, .int a2), (3, .int a3), (4, .int a4), (5, .int a5)], [.int a5, .int ((a1 * 8) + (s 15 a1.toNatClampNeg)), .ref (b + 19)]) (fun _ _ => rfl) ?_
      refine rx_ist rfl rfl (wg_19 hP) (fitb za5) (ar_at (i_mul_add 8 8 rfl (rg_X8_has c0) (rg_c (hN 15 a1.toNatClampNeg rfl) (nf_X8_isFilled c0 c1) (m := 8) (n := 8) rfl) (by decide) (by decide))) (ws_19 hP (i_mul_add 8 8 rfl (rg_X8_has c0) (rg_c (hN 15 a1.toNatClampNeg rfl) (nf_X8_isFilled c0 c1) (m := 8) (n := 8) rfl) (by decide) (by decide))) ?_
      refine rx_k 1 (70, [(7, .int ((a1 * 8) + (s 15 a1.toNatClampNeg))), (6, .int (s 15 a1.toNatClampNeg)), (0, .ref (b + 11)), (1, .int a1), (2, .int a2), (3, .int a3), (4, .int a4), (5, .int a5)], [.ref (b + 11)]) (fun _ _ => rfl) ?_
      refine rx_getf rfl rfl (wg_11 hP) rfl ?_
      refine rx_k 4 (78, [(7, .int ((a1 * 8) + (s 15 a1.toNatClampNeg))), (6, .int (s 15 a1.toNatClampNeg)), (0, .ref (b + 11)), (1, .int a1), (2, .int a2), (3, .int a3), (4, .int a4), (5, .int a5)], [.int ((s 15 a1.toNatClampNeg) + 1), .int a1, .ref (b + 15)]) (fun _ _ => rfl) ?_
      refine rx_ist rfl rfl (wg_15 hP) rfl (ar_at (rg_X8_has c0)) (ws_15 hP (rg_X8_has c0)) ?_
      refine rx_k 1 (81, [(7, .int ((a1 * 8) + (s 15 a1.toNatClampNeg))), (6, .int (s 15 a1.toNatClampNeg)), (0, .ref (b + 11)), (1, .int a1), (2, .int a2), (3, .int a3), (4, .int a4), (5, .int a5)], [.int (s 15 a1.toNatClampNeg)]) (fun _ _ => rfl) ?_
      rw [(show (D_X8_addPiece s a1 a2 a3 a4 a5) = ((s 15 a1.toNatClampNeg), (up (up (up (up (up s 16 ((a1 * 8) + (s 15 a1.toNatClampNeg)).toNatClampNeg a2) 17 ((a1 * 8) + (s 15 a1.toNatClampNeg)).toNatClampNeg a3) 18 ((a1 * 8) + (s 15 a1.toNatClampNeg)).toNatClampNeg a4) 19 ((a1 * 8) + (s 15 a1.toNatClampNeg)).toNatClampNeg a5) 15 a1.toNatClampNeg ((s 15 a1.toNatClampNeg) + 1))) from ((if_neg c0).trans ((if_pos c1).trans rfl)))]
      exact rx_ri rfl
    · refine rx_ifF rfl (bf c1) rfl ?_
      refine rx_k 1 (17, [(0, .ref (b + 11)), (1, .int a1), (2, .int a2), (3, .int a3), (4, .int a4), (5, .int a5)], [.int (-1)]) (fun _ _ => rfl) ?_
      rw [(show (D_X8_addPiece s a1 a2 a3 a4 a5) = ((-1), s) from ((if_neg c0).trans ((if_neg c1).trans rfl)))]
      exact rx_ri rfl
theorem rc_X8_addPiece (hP : WOK b w H0) {s : Sg} {a1 : Int32} {a2 : Int32} {a3 : Int32} {a4 : Int32} {a5 : Int32} (hN : NN s) (za5 : bz a5 = true) : Rc sc 4 122 [.ref (b + 11), .int a1, .int a2, .int a3, .int a4, .int a5] (wd b w wl H0 s, kn) (some (.int (D_X8_addPiece s a1 a2 a3 a4 a5).1)) (wd b w wl H0 (D_X8_addPiece s a1 a2 a3 a4 a5).2, kn) := rx_mc (m_X8_addPiece hP hN za5) rfl rfl (Nat.ble_eq_true_of_le (Nat.le_refl _)) (Nat.ble_eq_true_of_le (Nat.le_refl _))
theorem nn_X8_addPiece {s : Sg} {a1 : Int32} {a2 : Int32} {a3 : Int32} {a4 : Int32} {a5 : Int32} (hN : NN s) : NN (D_X8_addPiece s a1 a2 a3 a4 a5).2 := by
  by_cases c0 : (D_X8_has s a1) = 0
  · exact pair_of (P := fun zs => NN zs) (show (D_X8_addPiece s a1 a2 a3 a4 a5) = ((-1), s) from ((if_pos c0).trans rfl)) hN
  · by_cases c1 : (D_X8_isFilled s a1) = 0
    · exact pair_of (P := fun zs => NN zs) (show (D_X8_addPiece s a1 a2 a3 a4 a5) = ((s 15 a1.toNatClampNeg), (up (up (up (up (up s 16 ((a1 * 8) + (s 15 a1.toNatClampNeg)).toNatClampNeg a2) 17 ((a1 * 8) + (s 15 a1.toNatClampNeg)).toNatClampNeg a3) 18 ((a1 * 8) + (s 15 a1.toNatClampNeg)).toNatClampNeg a4) 19 ((a1 * 8) + (s 15 a1.toNatClampNeg)).toNatClampNeg a5) 15 a1.toNatClampNeg ((s 15 a1.toNatClampNeg) + 1))) from ((if_neg c0).trans ((if_pos c1).trans rfl))) (nn_c (nn_inc (rg_c (hN 15 a1.toNatClampNeg rfl) (nf_X8_isFilled c0 c1) (m := 8) (n := 8) rfl).1 (lt_nle (nf_X8_isFilled c0 c1)) (by decide)) (nn_0 rfl (nn_0 rfl (nn_0 rfl (nn_0 rfl hN)))))
    · exact pair_of (P := fun zs => NN zs) (show (D_X8_addPiece s a1 a2 a3 a4 a5) = ((-1), s) from ((if_neg c0).trans ((if_neg c1).trans rfl))) hN
theorem fw_X8_addPiece {s : Sg} {a1 : Int32} {a2 : Int32} {a3 : Int32} {a4 : Int32} {a5 : Int32} {k j : Nat} (h15 : k ≠ 15) (h16 : k ≠ 16) (h17 : k ≠ 17) (h18 : k ≠ 18) (h19 : k ≠ 19) : (D_X8_addPiece s a1 a2 a3 a4 a5).2 k j = s k j := by
  by_cases c0 : (D_X8_has s a1) = 0
  · exact pair_of (P := fun zs => zs k j = s k j) (show (D_X8_addPiece s a1 a2 a3 a4 a5) = ((-1), s) from ((if_pos c0).trans rfl)) rfl
  · by_cases c1 : (D_X8_isFilled s a1) = 0
    · exact pair_of (P := fun zs => zs k j = s k j) (show (D_X8_addPiece s a1 a2 a3 a4 a5) = ((s 15 a1.toNatClampNeg), (up (up (up (up (up s 16 ((a1 * 8) + (s 15 a1.toNatClampNeg)).toNatClampNeg a2) 17 ((a1 * 8) + (s 15 a1.toNatClampNeg)).toNatClampNeg a3) 18 ((a1 * 8) + (s 15 a1.toNatClampNeg)).toNatClampNeg a4) 19 ((a1 * 8) + (s 15 a1.toNatClampNeg)).toNatClampNeg a5) 15 a1.toNatClampNeg ((s 15 a1.toNatClampNeg) + 1))) from ((if_neg c0).trans ((if_pos c1).trans rfl))) ((up_a h15).trans ((up_a h19).trans ((up_a h18).trans ((up_a h17).trans ((up_a h16).trans rfl)))))
    · exact pair_of (P := fun zs => zs k j = s k j) (show (D_X8_addPiece s a1 a2 a3 a4 a5) = ((-1), s) from ((if_neg c0).trans ((if_neg c1).trans rfl))) rfl
-- LinkHarbour$SectionTable.countOf
def fr_X8_countOf_4 (b w : Nat) (a1 : Int32) (x3 : Int32) (x2 : Int32) : EF := (4, [(0, .ref (b + 11)), (1, .int a1), (2, .int x2), (3, .int x3)], [])
def fe_X8_countOf_4 (b w : Nat) (a1 : Int32) (x3 : Int32) (x2 : Int32) : EF := (37, [(2, .int x2)], [])
noncomputable def B_X8_countOf_4 (s : Sg) (a1 : Int32) (x3 : Int32) (x2 : Int32) : Bool × (Int32 × Int32) := (if (s 11 8) ≤ x3 then (false, (x3, x2)) else (if 24 ≤ x3 then (false, (x3, x2)) else (if (s 12 x3.toNatClampNeg) = a1 then (true, ((x3 + 1), (x2 + 1))) else (true, ((x3 + 1), x2)))))
theorem b_X8_countOf_4 (hP : WOK b w H0) {s : Sg} {a1 : Int32} {x3 : Int32} {x2 : Int32} (o : Option Value) (h' : EH) (hN : NN s) (hv : 0 ≤ x3.toInt) (hc : ∀ (t3 : Int32) (t2 : Int32), (B_X8_countOf_4 s a1 x3 x2) = (true, (t3, t2)) → x3.toInt < 2147483647 → t3 = x3 + 1 → Rx sc g_X8_countOf 0 (fr_X8_countOf_4 b w a1 t3 t2) (wd b w wl H0 s, kn) o h') (he : ∀ (t3 : Int32) (t2 : Int32), (B_X8_countOf_4 s a1 x3 x2) = (false, (t3, t2)) → Rx sc g_X8_countOf 0 (fe_X8_countOf_4 b w a1 t3 t2) (wd b w wl H0 s, kn) o h') : Rx sc g_X8_countOf 0 (fr_X8_countOf_4 b w a1 x3 x2) (wd b w wl H0 s, kn) o h' := by
  show Rx sc g_X8_countOf 0 (4, [(0, .ref (b + 11)), (1, .int a1), (2, .int x2), (3, .int x3)], []) (wd b w wl H0 s, kn) o h'
  refine rx_k 2 (6, [(0, .ref (b + 11)), (1, .int a1), (2, .int x2), (3, .int x3)], [.ref (b + 11), .int x3]) (fun _ _ => rfl) ?_
  refine rx_getf rfl rfl (wg_11 hP) rfl ?_
  by_cases c0 : (s 11 8) ≤ x3
  · refine rx_icT rfl (bt c0) ?_
    exact rx_lo am_X8_countOf (lo := [(2, .int x2)]) (List.forall_mem_cons.mpr ⟨List.mem_of_getElem? (i := 2) rfl, (fun _ h => absurd h List.not_mem_nil)⟩) rfl (he _ _ (show (B_X8_countOf_4 s a1 x3 x2) = (false, (x3, x2)) from ((if_pos c0).trans rfl)))
  · refine rx_icF rfl (bf c0) rfl ?_
    refine rx_k 2 (15, [(0, .ref (b + 11)), (1, .int a1), (2, .int x2), (3, .int x3)], [.int 24, .int x3]) (fun _ _ => rfl) ?_
    by_cases c1 : 24 ≤ x3
    · refine rx_icT rfl (bt c1) ?_
      exact rx_lo am_X8_countOf (lo := [(2, .int x2)]) (List.forall_mem_cons.mpr ⟨List.mem_of_getElem? (i := 2) rfl, (fun _ h => absurd h List.not_mem_nil)⟩) rfl (he _ _ (show (B_X8_countOf_4 s a1 x3 x2) = (false, (x3, x2)) from ((if_neg c0).trans ((if_pos c1).trans rfl))))
    · refine rx_icF rfl (bf c1) rfl ?_
      refine rx_k 1 (19, [(0, .ref (b + 11)), (1, .int a1), (2, .int x2), (3, .int x3)], [.ref (b + 11)]) (fun _ _ => rfl) ?_
      refine rx_getf rfl rfl (wg_11 hP) rfl ?_
      refine rx_k 1 (23, [(0, .ref (b + 11)), (1, .int a1), (2, .int x2), (3, .int x3)], [.int x3, .ref (b + 12)]) (fun _ _ => rfl) ?_
      refine rx_ild rfl rfl (wg_12 hP) (ar_at (rg_c hv c1 (m := 24) (n := 24) rfl)) ?_
      refine rx_k 1 (25, [(0, .ref (b + 11)), (1, .int a1), (2, .int x2), (3, .int x3)], [.int a1, .int (s 12 x3.toNatClampNeg)]) (fun _ _ => rfl) ?_
      by_cases c2 : (s 12 x3.toNatClampNeg) = a1
      · refine rx_icF rfl (nf c2) rfl ?_
        refine rx_k 3 (4, [(3, .int (x3 + 1)), (2, .int (x2 + 1)), (0, .ref (b + 11)), (1, .int a1)], []) (fun _ _ => rfl) ?_
        refine rx_lo am_X8_countOf (lo := [(0, .ref (b + 11)), (1, .int a1), (2, .int (x2 + 1)), (3, .int (x3 + 1))]) (List.forall_mem_cons.mpr ⟨List.mem_of_getElem? (i := 2) rfl, (List.forall_mem_cons.mpr ⟨List.mem_of_getElem? (i := 3) rfl, (List.forall_mem_cons.mpr ⟨List.mem_of_getElem? (i := 1) rfl, (List.forall_mem_cons.mpr ⟨List.mem_of_getElem? (i := 0) rfl, (fun _ h => absurd h List.not_mem_nil)⟩)⟩)⟩)⟩) rfl (hc _ _ (show (B_X8_countOf_4 s a1 x3 x2) = (true, ((x3 + 1), (x2 + 1))) from ((if_neg c0).trans ((if_neg c1).trans ((if_pos c2).trans rfl)))) (lt_nle c0) rfl)
      · refine rx_icT rfl (nt c2) ?_
        refine rx_k 2 (4, [(3, .int (x3 + 1)), (0, .ref (b + 11)), (1, .int a1), (2, .int x2)], []) (fun _ _ => rfl) ?_
        refine rx_lo am_X8_countOf (lo := [(0, .ref (b + 11)), (1, .int a1), (2, .int x2), (3, .int (x3 + 1))]) (List.forall_mem_cons.mpr ⟨List.mem_of_getElem? (i := 1) rfl, (List.forall_mem_cons.mpr ⟨List.mem_of_getElem? (i := 2) rfl, (List.forall_mem_cons.mpr ⟨List.mem_of_getElem? (i := 3) rfl, (List.forall_mem_cons.mpr ⟨List.mem_of_getElem? (i := 0) rfl, (fun _ h => absurd h List.not_mem_nil)⟩)⟩)⟩)⟩) rfl (hc _ _ (show (B_X8_countOf_4 s a1 x3 x2) = (true, ((x3 + 1), x2)) from ((if_neg c0).trans ((if_neg c1).trans ((if_neg c2).trans rfl)))) (lt_nle c0) rfl)
noncomputable def R_X8_countOf_37 (s : Sg) (a2 : Int32) : Int32 := a2
theorem r_X8_countOf_37 (hP : WOK b w H0) {s : Sg} {a2 : Int32} (hN : NN s) : Rx sc g_X8_countOf 0 ((37, [(2, .int a2)], [])) (wd b w wl H0 s, kn) (some (.int (R_X8_countOf_37 s a2))) (wd b w wl H0 s, kn) := by
  show Rx sc g_X8_countOf 0 (37, [(2, .int a2)], []) (wd b w wl H0 s, kn) (some (.int (R_X8_countOf_37 s a2))) (wd b w wl H0 s, kn)
  refine rx_k 1 (38, [(2, .int a2)], [.int a2]) (fun _ _ => rfl) ?_
  rw [(show (R_X8_countOf_37 s a2) = a2 from rfl)]
  exact rx_ri rfl
noncomputable def D_X8_countOf (s : Sg) (a1 : Int32) : Int32 := (R_X8_countOf_37 s ((itr (uc2 (B_X8_countOf_4 s a1)) BIG (0, 0)).2))
theorem m_X8_countOf (hP : WOK b w H0) {s : Sg} {a1 : Int32} (hN : NN s) : Rx sc g_X8_countOf 0 ((0, [(0, .ref (b + 11)), (1, .int a1)], [])) (wd b w wl H0 s, kn) (some (.int (D_X8_countOf s a1))) (wd b w wl H0 s, kn) := by
  show Rx sc g_X8_countOf 0 (0, [(0, .ref (b + 11)), (1, .int a1)], []) (wd b w wl H0 s, kn) (some (.int (D_X8_countOf s a1))) (wd b w wl H0 s, kn)
  refine rx_k 4 (4, [(3, .int 0), (2, .int 0), (0, .ref (b + 11)), (1, .int a1)], []) (fun _ _ => rfl) ?_
  refine rx_lo am_X8_countOf (lo := [(0, .ref (b + 11)), (1, .int a1), (2, .int 0), (3, .int 0)]) (List.forall_mem_cons.mpr ⟨List.mem_of_getElem? (i := 2) rfl, (List.forall_mem_cons.mpr ⟨List.mem_of_getElem? (i := 3) rfl, (List.forall_mem_cons.mpr ⟨List.mem_of_getElem? (i := 1) rfl, (List.forall_mem_cons.mpr ⟨List.mem_of_getElem? (i := 0) rfl, (fun _ h => absurd h List.not_mem_nil)⟩)⟩)⟩)⟩) rfl ?_
  refine rx_loop2p (B := B_X8_countOf_4 s a1) (fr := (fr_X8_countOf_4 b w a1)) (E := (fe_X8_countOf_4 b w a1)) (hp := (wd b w wl H0 s, kn)) (fun z3 z2 oo hh9 hI9 hv9 hc9 he9 => b_X8_countOf_4 hP oo hh9 hN hv9 hc9 he9)  BIG 0 0 _ _  (by decide : (0 : Int) ≤ (0 : Int32).toInt) (le_enough (by decide : (0 : Int) ≤ (0 : Int32).toInt)) ?_
  rw [(show (D_X8_countOf s a1) = (R_X8_countOf_37 s ((itr (uc2 (B_X8_countOf_4 s a1)) BIG (0, 0)).2)) from rfl)]
  exact r_X8_countOf_37 hP hN
theorem rc_X8_countOf (hP : WOK b w H0) {s : Sg} {a1 : Int32} (hN : NN s) : Rc sc 1 127 [.ref (b + 11), .int a1] (wd b w wl H0 s, kn) (some (.int (D_X8_countOf s a1))) (wd b w wl H0 s, kn) := rx_mc (m_X8_countOf hP hN) rfl rfl (Nat.ble_eq_true_of_le (Nat.le_refl _)) (Nat.ble_eq_true_of_le (Nat.le_refl _))
-- LinkHarbour$Settling.objectOf
noncomputable def D_X9_objectOf (q : Nat) (s : Sg) (a1 : Int32) : Int32 := (if (D_X11_isName a1) = 0 then (-1) else (s (q + 7) a1.toNatClampNeg))
theorem m_X9_objectOf (hP : WOK b w H0) {q : Nat} (hq : q = 38 ∨ q = 60) {s : Sg} {a1 : Int32} : Rx sc g_X9_objectOf 1 ((0, [(0, .ref (b + (q + 5))), (1, .int a1)], [])) (wd b w wl H0 s, kn) (some (.int (D_X9_objectOf q s a1))) (wd b w wl H0 s, kn) := by
  show Rx sc g_X9_objectOf 1 (0, [(0, .ref (b + (q + 5))), (1, .int a1)], []) (wd b w wl H0 s, kn) (some (.int (D_X9_objectOf q s a1))) (wd b w wl H0 s, kn)
  refine rx_k 1 (1, [(0, .ref (b + (q + 5))), (1, .int a1)], [.int a1]) (fun _ _ => rfl) ?_
  refine rx_inv rfl rfl (rc_X11_isName) rfl rfl rfl rfl rfl rfl ?_
  by_cases c0 : (D_X11_isName a1) = 0
  · refine rx_ifT rfl (bt c0) ?_
    refine rx_k 1 (17, [(0, .ref (b + (q + 5))), (1, .int a1)], [.int (-1)]) (fun _ _ => rfl) ?_
    rw [(show (D_X9_objectOf q s a1) = (-1) from ((if_pos c0).trans rfl))]
    exact rx_ri rfl
  · refine rx_ifF rfl (bf c0) rfl ?_
    refine rx_k 1 (8, [(0, .ref (b + (q + 5))), (1, .int a1)], [.ref (b + (q + 5))]) (fun _ _ => rfl) ?_
    refine rx_getf rfl rfl (wl_5 hP hq) rfl ?_
    refine rx_k 1 (12, [(0, .ref (b + (q + 5))), (1, .int a1)], [.int a1, .ref (b + (q + 7))]) (fun _ _ => rfl) ?_
    refine rx_ild rfl rfl (wl_7 hP hq) (ar_at (rg_isName c0)) ?_
    refine rx_k 1 (17, [(0, .ref (b + (q + 5))), (1, .int a1)], [.int (s (q + 7) a1.toNatClampNeg)]) (fun _ _ => rfl) ?_
    rw [(show (D_X9_objectOf q s a1) = (s (q + 7) a1.toNatClampNeg) from ((if_neg c0).trans rfl))]
    exact rx_ri rfl
theorem rc_X9_objectOf (hP : WOK b w H0) {q : Nat} (hq : q = 38 ∨ q = 60) {s : Sg} {a1 : Int32} : Rc sc 2 141 [.ref (b + (q + 5)), .int a1] (wd b w wl H0 s, kn) (some (.int (D_X9_objectOf q s a1))) (wd b w wl H0 s, kn) := rx_mc (m_X9_objectOf hP hq) rfl rfl (Nat.ble_eq_true_of_le (Nat.le_refl _)) (Nat.ble_eq_true_of_le (Nat.le_refl _))
-- LinkHarbour$Taking.placeOf
def fr_X10_placeOf_2 (b w : Nat) (q : Nat) (a1 : Int32) (x2 : Int32) : EF := (2, [(0, .ref (b + (q + 3))), (1, .int a1), (2, .int x2)], [])
def fe_X10_placeOf_2 (b w : Nat) (q : Nat) (a1 : Int32) (x2 : Int32) : EF := (34, [], [])
noncomputable def B_X10_placeOf_2 (q : Nat) (s : Sg) (a1 : Int32) (x2 : Int32) : Option (Option Int32) × (Int32) := (if (s (q + 3) 3) ≤ x2 then ((some none), x2) else (if 10 ≤ x2 then ((some none), x2) else (if (s (q + 4) x2.toNatClampNeg) = a1 then (some (some x2), x2) else (none, (x2 + 1)))))
theorem b_X10_placeOf_2 (hP : WOK b w H0) {q : Nat} (hq : q = 38 ∨ q = 60) {s : Sg} {a1 : Int32} {x2 : Int32} (o : Option Value) (h' : EH) (hN : NN s) (hv : 0 ≤ x2.toInt) (hc : ∀ (t2 : Int32), (B_X10_placeOf_2 q s a1 x2) = (none, t2) → x2.toInt < 2147483647 → t2 = x2 + 1 → Rx sc g_X10_placeOf 0 (fr_X10_placeOf_2 b w q a1 t2) (wd b w wl H0 s, kn) o h') (he : ∀ (t2 : Int32), (B_X10_placeOf_2 q s a1 x2) = (some none, t2) → Rx sc g_X10_placeOf 0 (fe_X10_placeOf_2 b w q a1 t2) (wd b w wl H0 s, kn) o h') (hr : ∀ (v : Int32) (t2 : Int32), (B_X10_placeOf_2 q s a1 x2) = (some (some v), t2) → o = some (.int v) ∧ h' = (wd b w wl H0 s, kn)) : Rx sc g_X10_placeOf 0 (fr_X10_placeOf_2 b w q a1 x2) (wd b w wl H0 s, kn) o h' := by
  show Rx sc g_X10_placeOf 0 (2, [(0, .ref (b + (q + 3))), (1, .int a1), (2, .int x2)], []) (wd b w wl H0 s, kn) o h'
  refine rx_k 2 (4, [(0, .ref (b + (q + 3))), (1, .int a1), (2, .int x2)], [.ref (b + (q + 3)), .int x2]) (fun _ _ => rfl) ?_
  refine rx_getf rfl rfl (wl_3 hP hq) rfl ?_
  by_cases c0 : (s (q + 3) 3) ≤ x2
  · refine rx_icT rfl (bt c0) ?_
    exact rx_lo am_X10_placeOf (lo := []) (fun _ h => absurd h List.not_mem_nil) rfl (he _ (show (B_X10_placeOf_2 q s a1 x2) = ((some none), x2) from ((if_pos c0).trans rfl)))
  · refine rx_icF rfl (bf c0) rfl ?_
    refine rx_k 2 (13, [(0, .ref (b + (q + 3))), (1, .int a1), (2, .int x2)], [.int 10, .int x2]) (fun _ _ => rfl) ?_
    by_cases c1 : 10 ≤ x2
    · refine rx_icT rfl (bt c1) ?_
      exact rx_lo am_X10_placeOf (lo := []) (fun _ h => absurd h List.not_mem_nil) rfl (he _ (show (B_X10_placeOf_2 q s a1 x2) = ((some none), x2) from ((if_neg c0).trans ((if_pos c1).trans rfl))))
    · refine rx_icF rfl (bf c1) rfl ?_
      refine rx_k 1 (17, [(0, .ref (b + (q + 3))), (1, .int a1), (2, .int x2)], [.ref (b + (q + 3))]) (fun _ _ => rfl) ?_
      refine rx_getf rfl rfl (wl_3 hP hq) rfl ?_
      refine rx_k 1 (21, [(0, .ref (b + (q + 3))), (1, .int a1), (2, .int x2)], [.int x2, .ref (b + (q + 4))]) (fun _ _ => rfl) ?_
      refine rx_ild rfl rfl (wl_4 hP hq) (ar_at (rg_c hv c1 (m := 10) (n := 10) rfl)) ?_
      refine rx_k 1 (23, [(0, .ref (b + (q + 3))), (1, .int a1), (2, .int x2)], [.int a1, .int (s (q + 4) x2.toNatClampNeg)]) (fun _ _ => rfl) ?_
      by_cases c2 : (s (q + 4) x2.toNatClampNeg) = a1
      · refine rx_icF rfl (nf c2) rfl ?_
        refine rx_k 1 (27, [(0, .ref (b + (q + 3))), (1, .int a1), (2, .int x2)], [.int x2]) (fun _ _ => rfl) ?_
        obtain ⟨hr1, hr2⟩ := hr _ _ (show (B_X10_placeOf_2 q s a1 x2) = (some (some x2), x2) from ((if_neg c0).trans ((if_neg c1).trans ((if_pos c2).trans rfl))))
        rw [hr1, hr2]
        exact rx_ri rfl
      · refine rx_icT rfl (nt c2) ?_
        refine rx_k 2 (2, [(2, .int (x2 + 1)), (0, .ref (b + (q + 3))), (1, .int a1)], []) (fun _ _ => rfl) ?_
        refine rx_lo am_X10_placeOf (lo := [(0, .ref (b + (q + 3))), (1, .int a1), (2, .int (x2 + 1))]) (List.forall_mem_cons.mpr ⟨List.mem_of_getElem? (i := 1) rfl, (List.forall_mem_cons.mpr ⟨List.mem_of_getElem? (i := 2) rfl, (List.forall_mem_cons.mpr ⟨List.mem_of_getElem? (i := 0) rfl, (fun _ h => absurd h List.not_mem_nil)⟩)⟩)⟩) rfl (hc _ (show (B_X10_placeOf_2 q s a1 x2) = (none, (x2 + 1)) from ((if_neg c0).trans ((if_neg c1).trans ((if_neg c2).trans rfl)))) (lt_nle c0) rfl)
noncomputable def R_X10_placeOf_34 (q : Nat) (s : Sg) : Int32 := (-1)
theorem r_X10_placeOf_34 (hP : WOK b w H0) {q : Nat} (hq : q = 38 ∨ q = 60) {s : Sg} (hN : NN s) : Rx sc g_X10_placeOf 0 ((34, [], [])) (wd b w wl H0 s, kn) (some (.int (R_X10_placeOf_34 q s))) (wd b w wl H0 s, kn) := by
  show Rx sc g_X10_placeOf 0 (34, [], []) (wd b w wl H0 s, kn) (some (.int (R_X10_placeOf_34 q s))) (wd b w wl H0 s, kn)
  refine rx_k 1 (35, [], [.int (-1)]) (fun _ _ => rfl) ?_
  rw [(show (R_X10_placeOf_34 q s) = (-1) from rfl)]
  exact rx_ri rfl
noncomputable def D_X10_placeOf (q : Nat) (s : Sg) (a1 : Int32) : Int32 := (match (itf (B_X10_placeOf_2 q s a1) BIG 0) with | some v => v | none => (R_X10_placeOf_34 q s))
theorem m_X10_placeOf (hP : WOK b w H0) {q : Nat} (hq : q = 38 ∨ q = 60) {s : Sg} {a1 : Int32} (hN : NN s) : Rx sc g_X10_placeOf 0 ((0, [(0, .ref (b + (q + 3))), (1, .int a1)], [])) (wd b w wl H0 s, kn) (some (.int (D_X10_placeOf q s a1))) (wd b w wl H0 s, kn) := by
  show Rx sc g_X10_placeOf 0 (0, [(0, .ref (b + (q + 3))), (1, .int a1)], []) (wd b w wl H0 s, kn) (some (.int (D_X10_placeOf q s a1))) (wd b w wl H0 s, kn)
  refine rx_k 2 (2, [(2, .int 0), (0, .ref (b + (q + 3))), (1, .int a1)], []) (fun _ _ => rfl) ?_
  refine rx_lo am_X10_placeOf (lo := [(0, .ref (b + (q + 3))), (1, .int a1), (2, .int 0)]) (List.forall_mem_cons.mpr ⟨List.mem_of_getElem? (i := 1) rfl, (List.forall_mem_cons.mpr ⟨List.mem_of_getElem? (i := 2) rfl, (List.forall_mem_cons.mpr ⟨List.mem_of_getElem? (i := 0) rfl, (fun _ h => absurd h List.not_mem_nil)⟩)⟩)⟩) rfl ?_
  have e9 := (show (D_X10_placeOf q s a1) = (match (itf (B_X10_placeOf_2 q s a1) BIG 0) with | some v => v | none => (R_X10_placeOf_34 q s)) from rfl)
  refine rx_loopF1 (B := B_X10_placeOf_2 q s a1) (fr := (fr_X10_placeOf_2 b w q a1)) (E := (fe_X10_placeOf_2 b w q a1)) (hp := (wd b w wl H0 s, kn)) (fun z hv9 hc9 he9 hr9 => b_X10_placeOf_2 hP hq _ _ hN hv9 hc9 he9 hr9) BIG 0 (by decide : (0 : Int) ≤ (0 : Int32).toInt) (le_enough (by decide : (0 : Int) ≤ (0 : Int32).toInt)) (fun e1 y => ?_) (fun v e1 => ?_)
  · rw [e9, e1]
    exact r_X10_placeOf_34 hP hq hN
  · exact ⟨by rw [e9, e1], rfl⟩
theorem rc_X10_placeOf (hP : WOK b w H0) {q : Nat} (hq : q = 38 ∨ q = 60) {s : Sg} {a1 : Int32} (hN : NN s) : Rc sc 1 151 [.ref (b + (q + 3)), .int a1] (wd b w wl H0 s, kn) (some (.int (D_X10_placeOf q s a1))) (wd b w wl H0 s, kn) := rx_mc (m_X10_placeOf hP hq hN) rfl rfl (Nat.ble_eq_true_of_le (Nat.le_refl _)) (Nat.ble_eq_true_of_le (Nat.le_refl _))
end DD
