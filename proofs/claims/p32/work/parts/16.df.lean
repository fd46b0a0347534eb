section DD
variable {sc : Nat × (Nat → Int32)} {b w wl : Nat} {H0 : List EC} {kn : Nat × Nat}
-- LinkHarbour$Settling.forget
def fr_X9_forget_12 (b w : Nat) (q : Nat) (x1 : Int32) : EF := (12, [(0, .ref (b + (q + 5))), (1, .int x1)], [])
def fe_X9_forget_12 (b w : Nat) (q : Nat) (x1 : Int32) : EF := (52, [], [])
noncomputable def B_X9_forget_12 (q : Nat) (x1 : Int32) (s : Sg) : Bool × (Int32 × Sg) := (if 20 ≤ x1 then (false, (x1, s)) else (true, ((x1 + 1), (up (up (up (up s (q + 6) x1.toNatClampNeg (-1)) (q + 7) x1.toNatClampNeg (-1)) (q + 8) x1.toNatClampNeg (-1)) (q + 9) x1.toNatClampNeg (-1)))))
theorem b_X9_forget_12 (hP : WOK b w H0) {q : Nat} (hq : q = 38 ∨ q = 60) {s : Sg} {x1 : Int32} (o : Option Value) (h' : EH) (hN : NN s) (hv : 0 ≤ x1.toInt) (hc : ∀ (t1 : Int32) (ts : Sg), (B_X9_forget_12 q x1 s) = (true, (t1, ts)) → x1.toInt < 2147483647 → t1 = x1 + 1 → Rx sc g_X9_forget 0 (fr_X9_forget_12 b w q t1) (wd b w wl H0 ts, kn) o h') (he : ∀ (t1 : Int32) (ts : Sg), (B_X9_forget_12 q x1 s) = (false, (t1, ts)) → Rx sc g_X9_forget 0 (fe_X9_forget_12 b w q t1) (wd b w wl H0 ts, kn) o h') : Rx sc g_X9_forget 0 (fr_X9_forget_12 b w q x1) (wd b w wl H0 s, kn) o h' := by
  show Rx sc g_X9_forget 0 (12, [(0, .ref (b + (q + 5))), (1, .int x1)], []) (wd b w wl H0 s, kn) o h'
  refine rx_k 2 (15, [(0, .ref (b + (q + 5))), (1, .int x1)], [.int 20, .int x1]) (fun _ _ => rfl) ?_
  by_cases c0 : 20 ≤ x1
  · refine rx_icT rfl (bt c0) ?_
    exact rx_lo am_X9_forget (lo := []) (fun _ h => absurd h List.not_mem_nil) rfl (he _ _ (show (B_X9_forget_12 q x1 s) = (false, (x1, s)) from ((if_pos c0).trans rfl)))
  · refine rx_icF rfl (bf c0) rfl ?_
    refine rx_k 1 (19, [(0, .ref (b + (q + 5))), (1, .int x1)], [.ref (b + (q + 5))]) (fun _ _ => rfl) ?_
    refine rx_getf rfl rfl (wl_5 hP hq) rfl ?_
    refine rx_k 2 (24, [(0, .ref (b + (q + 5))), (1, .int x1)], [.int (-1), .int x1, .ref (b + (q + 6))]) (fun _ _ => rfl) ?_
    refine rx_ist rfl rfl (wl_6 hP hq) rfl (ar_at (rg_c hv c0 (m := 20) (n := 20) rfl)) (wz_6 hP hq (rg_c hv c0 (m := 20) (n := 20) rfl)) ?_
    refine rx_k 1 (26, [(0, .ref (b + (q + 5))), (1, .int x1)], [.ref (b + (q + 5))]) (fun _ _ => rfl) ?_
    refine rx_getf rfl rfl (wl_5 hP hq) rfl ?_
    refine rx_k 2 (31, [(0, .ref (b + (q + 5))), (1, .int x1)], [.int (-1), .int x1, .ref (b + (q + 7))]) (fun _ _ => rfl) ?_
    refine rx_ist rfl rfl (wl_7 hP hq) rfl (ar_at (rg_c hv c0 (m := 20) (n := 20) rfl)) (wz_7 hP hq (rg_c hv c0 (m := 20) (n := 20) rfl)) ?_
    refine rx_k 1 (33, [(0, .ref (b + (q + 5))), (1, .int x1)], [.ref (b + (q + 5))]) (fun _ _ => rfl) ?_
    refine rx_getf rfl rfl (wl_5 hP hq) rfl ?_
    refine rx_k 2 (38, [(0, .ref (b + (q + 5))), (1, .int x1)], [.int (-1), .int x1, .ref (b + (q + 8))]) (fun _ _ => rfl) ?_
    refine rx_ist rfl rfl (wl_8 hP hq) rfl (ar_at (rg_c hv c0 (m := 20) (n := 20) rfl)) (wz_8 hP hq (rg_c hv c0 (m := 20) (n := 20) rfl)) ?_
    refine rx_k 1 (40, [(0, .ref (b + (q + 5))), (1, .int x1)], [.ref (b + (q + 5))]) (fun _ _ => rfl) ?_
    refine rx_getf rfl rfl (wl_5 hP hq) rfl ?_
    refine rx_k 2 (45, [(0, .ref (b + (q + 5))), (1, .int x1)], [.int (-1), .int x1, .ref (b + (q + 9))]) (fun _ _ => rfl) ?_
    refine rx_ist rfl rfl (wl_9 hP hq) rfl (ar_at (rg_c hv c0 (m := 20) (n := 20) rfl)) (wz_9 hP hq (rg_c hv c0 (m := 20) (n := 20) rfl)) ?_
    refine rx_k 2 (12, [(1, .int (x1 + 1)), (0, .ref (b + (q + 5)))], []) (fun _ _ => rfl) ?_
    refine rx_lo am_X9_forget (lo := [(0, .ref (b + (q + 5))), (1, .int (x1 + 1))]) (List.forall_mem_cons.mpr ⟨List.mem_of_getElem? (i := 1) rfl, (List.forall_mem_cons.mpr ⟨List.mem_of_getElem? (i := 0) rfl, (fun _ h => absurd h List.not_mem_nil)⟩)⟩) rfl (hc _ _ (show (B_X9_forget_12 q x1 s) = (true, ((x1 + 1), (up (up (up (up s (q + 6) x1.toNatClampNeg (-1)) (q + 7) x1.toNatClampNeg (-1)) (q + 8) x1.toNatClampNeg (-1)) (q + 9) x1.toNatClampNeg (-1)))) from ((if_neg c0).trans rfl)) (lt_nle c0) rfl)
theorem nb_X9_forget_12 {q : Nat} (hq : q = 38 ∨ q = 60) {x1 : Int32} {s : Sg} (hN : NN s) : ∃ (f : Bool) (t1 : Int32) (ts : Sg), (B_X9_forget_12 q x1 s) = (f, (t1, ts)) ∧ NN ts := by
  by_cases c0 : 20 ≤ x1
  · exact ⟨_, _, _, (show (B_X9_forget_12 q x1 s) = (false, (x1, s)) from ((if_pos c0).trans rfl)), hN⟩
  · exact ⟨_, _, _, (show (B_X9_forget_12 q x1 s) = (true, ((x1 + 1), (up (up (up (up s (q + 6) x1.toNatClampNeg (-1)) (q + 7) x1.toNatClampNeg (-1)) (q + 8) x1.toNatClampNeg (-1)) (q + 9) x1.toNatClampNeg (-1)))) from ((if_neg c0).trans rfl)), (nn_0 (by rcases hq with rfl | rfl <;> rfl) (nn_0 (by rcases hq with rfl | rfl <;> rfl) (nn_0 (by rcases hq with rfl | rfl <;> rfl) (nn_0 (by rcases hq with rfl | rfl <;> rfl) hN))))⟩
noncomputable def R_X9_forget_52 (q : Nat) (s : Sg) : Sg := s
theorem r_X9_forget_52 (hP : WOK b w H0) {q : Nat} (hq : q = 38 ∨ q = 60) {s : Sg} (hN : NN s) : Rx sc g_X9_forget 0 ((52, [], [])) (wd b w wl H0 s, kn) none (wd b w wl H0 (R_X9_forget_52 q s), kn) := by
  show Rx sc g_X9_forget 0 (52, [], []) (wd b w wl H0 s, kn) none (wd b w wl H0 (R_X9_forget_52 q s), kn)
  rw [(show (R_X9_forget_52 q s) = s from rfl)]
  exact rx_rv rfl
theorem nr_X9_forget_52 {q : Nat} (hq : q = 38 ∨ q = 60) {s : Sg} (hN : NN s) : NN ((R_X9_forget_52 q s)) := by
  rw [show (R_X9_forget_52 q s) = s from rfl]
  exact hN
noncomputable def D_X9_forget (q : Nat) (s : Sg) : Sg := (R_X9_forget_52 q ((itr (uc2 (B_X9_forget_12 q)) BIG (0, (up (up s (q + 5) 8 0) (q + 5) 9 0))).2))
theorem m_X9_forget (hP : WOK b w H0) {q : Nat} (hq : q = 38 ∨ q = 60) {s : Sg} (hN : NN s) : Rx sc g_X9_forget 0 ((0, [(0, .ref (b + (q + 5)))], [])) (wd b w wl H0 s, kn) none (wd b w wl H0 (D_X9_forget q s), kn) := by
  show Rx sc g_X9_forget 0 (0, [(0, .ref (b + (q + 5)))], []) (wd b w wl H0 s, kn) none (wd b w wl H0 (D_X9_forget q s), kn)
  refine rx_k 2 (2, [(0, .ref (b + (q + 5)))], [.int 0, .ref (b + (q + 5))]) (fun _ _ => rfl) ?_
  refine rx_putf rfl rfl (wl_5 hP hq) rfl (wz_5_8 hP hq) ?_
  refine rx_k 2 (7, [(0, .ref (b + (q + 5)))], [.int 0, .ref (b + (q + 5))]) (fun _ _ => rfl) ?_
  refine rx_putf rfl rfl (wl_5 hP hq) rfl (wz_5_9 hP hq) ?_
  refine rx_k 2 (12, [(1, .int 0), (0, .ref (b + (q + 5)))], []) (fun _ _ => rfl) ?_
  refine rx_lo am_X9_forget (lo := [(0, .ref (b + (q + 5))), (1, .int 0)]) (List.forall_mem_cons.mpr ⟨List.mem_of_getElem? (i := 1) rfl, (List.forall_mem_cons.mpr ⟨List.mem_of_getElem? (i := 0) rfl, (fun _ h => absurd h List.not_mem_nil)⟩)⟩) rfl ?_
  refine rx_loop2s (B := B_X9_forget_12 q) (fr := (fr_X9_forget_12 b w q)) (E := (fe_X9_forget_12 b w q)) (I := fun z1 zs => NN zs) (fun z1 zs oo hh9 hI9 hv9 hc9 he9 => b_X9_forget_12 hP hq oo hh9 hI9 hv9 hc9 he9) (fun z1 zs hz => nb_X9_forget_12 hq hz) BIG 0 (up (up s (q + 5) 8 0) (q + 5) 9 0) _ _ (nn_0 (by rcases hq with rfl | rfl <;> rfl) (nn_0 (by rcases hq with rfl | rfl <;> rfl) hN)) (by decide : (0 : Int) ≤ (0 : Int32).toInt) (le_enough (by decide : (0 : Int) ≤ (0 : Int32).toInt)) ?_
  rw [(show (D_X9_forget q s) = (R_X9_forget_52 q ((itr (uc2 (B_X9_forget_12 q)) BIG (0, (up (up s (q + 5) 8 0) (q + 5) 9 0))).2)) from rfl)]
  exact r_X9_forget_52 hP hq (itr_inv2 (B := B_X9_forget_12 q) (I := fun z1 zs => NN zs) (fun z1 zs hz => nb_X9_forget_12 hq hz) BIG 0 (up (up s (q + 5) 8 0) (q + 5) 9 0) (nn_0 (by rcases hq with rfl | rfl <;> rfl) (nn_0 (by rcases hq with rfl | rfl <;> rfl) hN)))
theorem rc_X9_forget (hP : WOK b w H0) {q : Nat} (hq : q = 38 ∨ q = 60) {s : Sg} (hN : NN s) : Rc sc 1 136 [.ref (b + (q + 5))] (wd b w wl H0 s, kn) none (wd b w wl H0 (D_X9_forget q s), kn) := rx_mc (m_X9_forget hP hq hN) rfl rfl (Nat.ble_eq_true_of_le (Nat.le_refl _)) (Nat.ble_eq_true_of_le (Nat.le_refl _))
theorem nn_X9_forget {q : Nat} (hq : q = 38 ∨ q = 60) {s : Sg} (hN : NN s) : NN (D_X9_forget q s) := by
  rw [show (D_X9_forget q s) = (R_X9_forget_52 q ((itr (uc2 (B_X9_forget_12 q)) BIG (0, (up (up s (q + 5) 8 0) (q + 5) 9 0))).2)) from rfl]
  exact (nr_X9_forget_52 hq (itr_inv2 (B := B_X9_forget_12 q) (I := fun z1 zs => NN zs) (fun z1 zs hz => nb_X9_forget_12 hq hz) BIG 0 (up (up s (q + 5) 8 0) (q + 5) 9 0) (nn_0 (by rcases hq with rfl | rfl <;> rfl) (nn_0 (by rcases hq with rfl | rfl <;> rfl) hN))))
theorem fwb_X9_forget_12 {q : Nat} {x1 : Int32} {s : Sg} {k j : Nat} (l5f8 : k ≠ q + 5 ∨ j ≠ 8) (l5f9 : k ≠ q + 5 ∨ j ≠ 9) (l6 : k ≠ q + 6) (l7 : k ≠ q + 7) (l8 : k ≠ q + 8) (l9 : k ≠ q + 9) : ∃ (f : Bool) (t1 : Int32) (ts : Sg), (B_X9_forget_12 q x1 s) = (f, (t1, ts)) ∧ ts k j = s k j := by
  by_cases c0 : 20 ≤ x1
  · exact ⟨_, _, _, (show (B_X9_forget_12 q x1 s) = (false, (x1, s)) from ((if_pos c0).trans rfl)), rfl⟩
  · exact ⟨_, _, _, (show (B_X9_forget_12 q x1 s) = (true, ((x1 + 1), (up (up (up (up s (q + 6) x1.toNatClampNeg (-1)) (q + 7) x1.toNatClampNeg (-1)) (q + 8) x1.toNatClampNeg (-1)) (q + 9) x1.toNatClampNeg (-1)))) from ((if_neg c0).trans rfl)), ((up_a l9).trans ((up_a l8).trans ((up_a l7).trans ((up_a l6).trans rfl))))⟩
theorem fwr_X9_forget_52 {q : Nat} {s : Sg} {k j : Nat} (l5f8 : k ≠ q + 5 ∨ j ≠ 8) (l5f9 : k ≠ q + 5 ∨ j ≠ 9) (l6 : k ≠ q + 6) (l7 : k ≠ q + 7) (l8 : k ≠ q + 8) (l9 : k ≠ q + 9) : (R_X9_forget_52 q s) k j = s k j := by
  rw [show (R_X9_forget_52 q s) = s from rfl]
  first | done | exact rfl
theorem fw_X9_forget {q : Nat} {s : Sg} {k j : Nat} (l5f8 : k ≠ q + 5 ∨ j ≠ 8) (l5f9 : k ≠ q + 5 ∨ j ≠ 9) (l6 : k ≠ q + 6) (l7 : k ≠ q + 7) (l8 : k ≠ q + 8) (l9 : k ≠ q + 9) : (D_X9_forget q s) k j = s k j := by
  rw [show (D_X9_forget q s) = (R_X9_forget_52 q ((itr (uc2 (B_X9_forget_12 q)) BIG (0, (up (up s (q + 5) 8 0) (q + 5) 9 0))).2)) from rfl]
  first | done | exact ((fwr_X9_forget_52 l5f8 l5f9 l6 l7 l8 l9).trans ((itr_inv2 (B := B_X9_forget_12 q) (I := fun z1 zs => zs k j = (up (up s (q + 5) 8 0) (q + 5) 9 0) k j) (fun z1 zs hz => exq2 (fwb_X9_forget_12 l5f8 l5f9 l6 l7 l8 l9) hz) BIG 0 (up (up s (q + 5) 8 0) (q + 5) 9 0) rfl).trans ((up_f l5f9).trans ((up_f l5f8).trans rfl))))
-- LinkHarbour$ObjectTable.has
noncomputable def D_X6_has (s : Sg) (a1 : Int32) : Int32 := (if a1 < 0 then 0 else (if (s 1 9) ≤ a1 then 0 else (if 10 ≤ a1 then 0 else 1)))
theorem m_X6_has (hP : WOK b w H0) {s : Sg} {a1 : Int32} : Rx sc g_X6_has 0 ((0, [(0, .ref (b + 1)), (1, .int a1)], [])) (wd b w wl H0 s, kn) (some (.int (D_X6_has s a1))) (wd b w wl H0 s, kn) := by
  show Rx sc g_X6_has 0 (0, [(0, .ref (b + 1)), (1, .int a1)], []) (wd b w wl H0 s, kn) (some (.int (D_X6_has s a1))) (wd b w wl H0 s, kn)
  refine rx_k 1 (1, [(0, .ref (b + 1)), (1, .int a1)], [.int a1]) (fun _ _ => rfl) ?_
  by_cases c0 : a1 < 0
  · refine rx_ifT rfl (bt c0) ?_
    refine rx_k 1 (23, [(0, .ref (b + 1)), (1, .int a1)], [.int 0]) (fun _ _ => rfl) ?_
    rw [(show (D_X6_has s a1) = 0 from ((if_pos c0).trans rfl))]
    exact rx_ri rfl
  · refine rx_ifF rfl (bf c0) rfl ?_
    refine rx_k 2 (6, [(0, .ref (b + 1)), (1, .int a1)], [.ref (b + 1), .int a1]) (fun _ _ => rfl) ?_
    refine rx_getf rfl rfl (wg_1 hP) rfl ?_
    by_cases c1 : (s 1 9) ≤ a1
    · refine rx_icT rfl (bt c1) ?_
      refine rx_k 1 (23, [(0, .ref (b + 1)), (1, .int a1)], [.int 0]) (fun _ _ => rfl) ?_
      rw [(show (D_X6_has s a1) = 0 from ((if_neg c0).trans ((if_pos c1).trans rfl)))]
      exact rx_ri rfl
    · refine rx_icF rfl (bf c1) rfl ?_
      refine rx_k 2 (15, [(0, .ref (b + 1)), (1, .int a1)], [.int 10, .int a1]) (fun _ _ => rfl) ?_
      by_cases c2 : 10 ≤ a1
      · refine rx_icT rfl (bt c2) ?_
        refine rx_k 1 (23, [(0, .ref (b + 1)), (1, .int a1)], [.int 0]) (fun _ _ => rfl) ?_
        rw [(show (D_X6_has s a1) = 0 from ((if_neg c0).trans ((if_neg c1).trans ((if_pos c2).trans rfl))))]
        exact rx_ri rfl
      · refine rx_icF rfl (bf c2) rfl ?_
        refine rx_k 2 (23, [(0, .ref (b + 1)), (1, .int a1)], [.int 1]) (fun _ _ => rfl) ?_
        rw [(show (D_X6_has s a1) = 1 from ((if_neg c0).trans ((if_neg c1).trans ((if_neg c2).trans rfl))))]
        exact rx_ri rfl
theorem bz_X6_has {s : Sg} {a1 : Int32} : bz (D_X6_has s a1) = true := by
  by_cases c0 : a1 < 0
  · rw [show (D_X6_has s a1) = 0 from ((if_pos c0).trans rfl)]
    exact rfl
  · by_cases c1 : (s 1 9) ≤ a1
    · rw [show (D_X6_has s a1) = 0 from ((if_neg c0).trans ((if_pos c1).trans rfl))]
      exact rfl
    · by_cases c2 : 10 ≤ a1
      · rw [show (D_X6_has s a1) = 0 from ((if_neg c0).trans ((if_neg c1).trans ((if_pos c2).trans rfl)))]
        exact rfl
      · rw [show (D_X6_has s a1) = 1 from ((if_neg c0).trans ((if_neg c1).trans ((if_neg c2).trans rfl)))]
        exact rfl
theorem rc_X6_has (hP : WOK b w H0) {s : Sg} {a1 : Int32} : Rc sc 1 88 [.ref (b + 1), .int a1] (wd b w wl H0 s, kn) (some (.int (D_X6_has s a1))) (wd b w wl H0 s, kn) := rx_mc (m_X6_has hP) rfl (bz_X6_has ..) (Nat.ble_eq_true_of_le (Nat.le_refl _)) (Nat.ble_eq_true_of_le (Nat.le_refl _))
theorem rg_X6_has {s : Sg} {a : Int32} (h : ¬ D_X6_has s a = 0) : rg a 10 := by
  unfold D_X6_has at h
  split at h <;> first | exact absurd rfl h | skip
  split at h <;> first | exact absurd rfl h | skip
  split at h <;> first | exact absurd rfl h | skip
  exact rg_b (by assumption) (by assumption) (m := 10) rfl
-- LinkHarbour$ObjectTable.kind
noncomputable def D_X6_kind (s : Sg) (a1 : Int32) (a2 : Int32) : Int32 := (if (D_X6_has s a1) = 0 then (-1) else (if (D_X11_isName a2) = 0 then (-1) else (if (D_X11_hasBit (s 2 a1.toNatClampNeg) a2) = 0 then (-1) else (s 5 ((a1 * 20) + a2).toNatClampNeg))))
theorem m_X6_kind (hP : WOK b w H0) {s : Sg} {a1 : Int32} {a2 : Int32} : Rx sc g_X6_kind 1 ((0, [(0, .ref (b + 1)), (1, .int a1), (2, .int a2)], [])) (wd b w wl H0 s, kn) (some (.int (D_X6_kind s a1 a2))) (wd b w wl H0 s, kn) := by
  show Rx sc g_X6_kind 1 (0, [(0, .ref (b + 1)), (1, .int a1), (2, .int a2)], []) (wd b w wl H0 s, kn) (some (.int (D_X6_kind s a1 a2))) (wd b w wl H0 s, kn)
  refine rx_k 2 (2, [(0, .ref (b + 1)), (1, .int a1), (2, .int a2)], [.int a1, .ref (b + 1)]) (fun _ _ => rfl) ?_
  refine rx_inv rfl rfl (rc_X6_has hP) rfl rfl rfl (q_recv (wg_1 hP)) rfl rfl ?_
  by_cases c0 : (D_X6_has s a1) = 0
  · refine rx_ifT rfl (bt c0) ?_
    refine rx_k 1 (29, [(0, .ref (b + 1)), (1, .int a1), (2, .int a2)], [.int (-1)]) (fun _ _ => rfl) ?_
    rw [(show (D_X6_kind s a1 a2) = (-1) from ((if_pos c0).trans rfl))]
    exact rx_ri rfl
  · refine rx_ifF rfl (bf c0) rfl ?_
    refine rx_k 1 (9, [(0, .ref (b + 1)), (1, .int a1), (2, .int a2)], [.int a2]) (fun _ _ => rfl) ?_
    refine rx_inv rfl rfl (rc_X11_isName) rfl rfl rfl rfl rfl rfl ?_
    by_cases c1 : (D_X11_isName a2) = 0
    · refine rx_ifT rfl (bt c1) ?_
      refine rx_k 1 (29, [(0, .ref (b + 1)), (1, .int a1), (2, .int a2)], [.int (-1)]) (fun _ _ => rfl) ?_
      rw [(show (D_X6_kind s a1 a2) = (-1) from ((if_neg c0).trans ((if_pos c1).trans rfl)))]
      exact rx_ri rfl
    · refine rx_ifF rfl (bf c1) rfl ?_
      refine rx_k 1 (16, [(0, .ref (b + 1)), (1, .int a1), (2, .int a2)], [.ref (b + 1)]) (fun _ _ => rfl) ?_
      refine rx_getf rfl rfl (wg_1 hP) rfl ?_
      refine rx_k 1 (20, [(0, .ref (b + 1)), (1, .int a1), (2, .int a2)], [.int a1, .ref (b + 2)]) (fun _ _ => rfl) ?_
      refine rx_ild rfl rfl (wg_2 hP) (ar_at (rg_X6_has c0)) ?_
      refine rx_k 1 (22, [(0, .ref (b + 1)), (1, .int a1), (2, .int a2)], [.int a2, .int (s 2 a1.toNatClampNeg)]) (fun _ _ => rfl) ?_
      refine rx_inv rfl rfl (rc_X11_hasBit) rfl rfl rfl rfl rfl rfl ?_
      by_cases c2 : (D_X11_hasBit (s 2 a1.toNatClampNeg) a2) = 0
      · refine rx_ifF rfl (nf c2) rfl ?_
        refine rx_k 1 (29, [(0, .ref (b + 1)), (1, .int a1), (2, .int a2)], [.int (-1)]) (fun _ _ => rfl) ?_
        rw [(show (D_X6_kind s a1 a2) = (-1) from ((if_neg c0).trans ((if_neg c1).trans ((if_pos c2).trans rfl))))]
        exact rx_ri rfl
      · refine rx_ifT rfl (nt c2) ?_
        refine rx_k 1 (31, [(0, .ref (b + 1)), (1, .int a1), (2, .int a2)], [.ref (b + 1)]) (fun _ _ => rfl) ?_
        refine rx_getf rfl rfl (wg_1 hP) rfl ?_
        refine rx_k 5 (40, [(0, .ref (b + 1)), (1, .int a1), (2, .int a2)], [.int ((a1 * 20) + a2), .ref (b + 5)]) (fun _ _ => rfl) ?_
        refine rx_ild rfl rfl (wg_5 hP) (ar_at (i_mul_add 20 20 rfl (rg_X6_has c0) (rg_isName c1) (by decide) (by decide))) ?_
        rw [(show (D_X6_kind s a1 a2) = (s 5 ((a1 * 20) + a2).toNatClampNeg) from ((if_neg c0).trans ((if_neg c1).trans ((if_neg c2).trans rfl))))]
        exact rx_ri rfl
theorem rc_X6_kind (hP : WOK b w H0) {s : Sg} {a1 : Int32} {a2 : Int32} : Rc sc 2 98 [.ref (b + 1), .int a1, .int a2] (wd b w wl H0 s, kn) (some (.int (D_X6_kind s a1 a2))) (wd b w wl H0 s, kn) := rx_mc (m_X6_kind hP) rfl rfl (Nat.ble_eq_true_of_le (Nat.le_refl _)) (Nat.ble_eq_true_of_le (Nat.le_refl _))
-- LinkHarbour$ObjectTable.size
noncomputable def D_X6_size (s : Sg) (a1 : Int32) (a2 : Int32) : Int32 := (if (D_X6_has s a1) = 0 then 0 else (if (D_X11_isName a2) = 0 then 0 else (s 8 ((a1 * 20) + a2).toNatClampNeg)))
theorem m_X6_size (hP : WOK b w H0) {s : Sg} {a1 : Int32} {a2 : Int32} : Rx sc g_X6_size 1 ((0, [(0, .ref (b + 1)), (1, .int a1), (2, .int a2)], [])) (wd b w wl H0 s, kn) (some (.int (D_X6_size s a1 a2))) (wd b w wl H0 s, kn) := by
  show Rx sc g_X6_size 1 (0, [(0, .ref (b + 1)), (1, .int a1), (2, .int a2)], []) (wd b w wl H0 s, kn) (some (.int (D_X6_size s a1 a2))) (wd b w wl H0 s, kn)
  refine rx_k 2 (2, [(0, .ref (b + 1)), (1, .int a1), (2, .int a2)], [.int a1, .ref (b + 1)]) (fun _ _ => rfl) ?_
  refine rx_inv rfl rfl (rc_X6_has hP) rfl rfl rfl (q_recv (wg_1 hP)) rfl rfl ?_
  by_cases c0 : (D_X6_has s a1) = 0
  · refine rx_ifT rfl (bt c0) ?_
    refine rx_k 1 (30, [(0, .ref (b + 1)), (1, .int a1), (2, .int a2)], [.int 0]) (fun _ _ => rfl) ?_
    rw [(show (D_X6_size s a1 a2) = 0 from ((if_pos c0).trans rfl))]
    exact rx_ri rfl
  · refine rx_ifF rfl (bf c0) rfl ?_
    refine rx_k 1 (9, [(0, .ref (b + 1)), (1, .int a1), (2, .int a2)], [.int a2]) (fun _ _ => rfl) ?_
    refine rx_inv rfl rfl (rc_X11_isName) rfl rfl rfl rfl rfl rfl ?_
    by_cases c1 : (D_X11_isName a2) = 0
    · refine rx_ifT rfl (bt c1) ?_
      refine rx_k 1 (30, [(0, .ref (b + 1)), (1, .int a1), (2, .int a2)], [.int 0]) (fun _ _ => rfl) ?_
      rw [(show (D_X6_size s a1 a2) = 0 from ((if_neg c0).trans ((if_pos c1).trans rfl)))]
      exact rx_ri rfl
    · refine rx_ifF rfl (bf c1) rfl ?_
      refine rx_k 1 (16, [(0, .ref (b + 1)), (1, .int a1), (2, .int a2)], [.ref (b + 1)]) (fun _ _ => rfl) ?_
      refine rx_getf rfl rfl (wg_1 hP) rfl ?_
      refine rx_k 5 (25, [(0, .ref (b + 1)), (1, .int a1), (2, .int a2)], [.int ((a1 * 20) + a2), .ref (b + 8)]) (fun _ _ => rfl) ?_
      refine rx_ild rfl rfl (wg_8 hP) (ar_at (i_mul_add 20 20 rfl (rg_X6_has c0) (rg_isName c1) (by decide) (by decide))) ?_
      refine rx_k 1 (30, [(0, .ref (b + 1)), (1, .int a1), (2, .int a2)], [.int (s 8 ((a1 * 20) + a2).toNatClampNeg)]) (fun _ _ => rfl) ?_
      rw [(show (D_X6_size s a1 a2) = (s 8 ((a1 * 20) + a2).toNatClampNeg) from ((if_neg c0).trans ((if_neg c1).trans rfl)))]
      exact rx_ri rfl
theorem rc_X6_size (hP : WOK b w H0) {s : Sg} {a1 : Int32} {a2 : Int32} : Rc sc 2 101 [.ref (b + 1), .int a1, .int a2] (wd b w wl H0 s, kn) (some (.int (D_X6_size s a1 a2))) (wd b w wl H0 s, kn) := rx_mc (m_X6_size hP) rfl rfl (Nat.ble_eq_true_of_le (Nat.le_refl _)) (Nat.ble_eq_true_of_le (Nat.le_refl _))
-- LinkHarbour$ObjectTable.align
noncomputable def D_X6_align (s : Sg) (a1 : Int32) (a2 : Int32) : Int32 := (if (D_X6_has s a1) = 0 then 1 else (if (D_X11_isName a2) = 0 then 1 else (s 9 ((a1 * 20) + a2).toNatClampNeg)))
theorem m_X6_align (hP : WOK b w H0) {s : Sg} {a1 : Int32} {a2 : Int32} : Rx sc g_X6_align 1 ((0, [(0, .ref (b + 1)), (1, .int a1), (2, .int a2)], [])) (wd b w wl H0 s, kn) (some (.int (D_X6_align s a1 a2))) (wd b w wl H0 s, kn) := by
  show Rx sc g_X6_align 1 (0, [(0, .ref (b + 1)), (1, .int a1), (2, .int a2)], []) (wd b w wl H0 s, kn) (some (.int (D_X6_align s a1 a2))) (wd b w wl H0 s, kn)
  refine rx_k 2 (2, [(0, .ref (b + 1)), (1, .int a1), (2, .int a2)], [.int a1, .ref (b + 1)]) (fun _ _ => rfl) ?_
  refine rx_inv rfl rfl (rc_X6_has hP) rfl rfl rfl (q_recv (wg_1 hP)) rfl rfl ?_
  by_cases c0 : (D_X6_has s a1) = 0
  · refine rx_ifT rfl (bt c0) ?_
    refine rx_k 1 (30, [(0, .ref (b + 1)), (1, .int a1), (2, .int a2)], [.int 1]) (fun _ _ => rfl) ?_
    rw [(show (D_X6_align s a1 a2) = 1 from ((if_pos c0).trans rfl))]
    exact rx_ri rfl
  · refine rx_ifF rfl (bf c0) rfl ?_
    refine rx_k 1 (9, [(0, .ref (b + 1)), (1, .int a1), (2, .int a2)], [.int a2]) (fun _ _ => rfl) ?_
    refine rx_inv rfl rfl (rc_X11_isName) rfl rfl rfl rfl rfl rfl ?_
    by_cases c1 : (D_X11_isName a2) = 0
    · refine rx_ifT rfl (bt c1) ?_
      refine rx_k 1 (30, [(0, .ref (b + 1)), (1, .int a1), (2, .int a2)], [.int 1]) (fun _ _ => rfl) ?_
      rw [(show (D_X6_align s a1 a2) = 1 from ((if_neg c0).trans ((if_pos c1).trans rfl)))]
      exact rx_ri rfl
    · refine rx_ifF rfl (bf c1) rfl ?_
      refine rx_k 1 (16, [(0, .ref (b + 1)), (1, .int a1), (2, .int a2)], [.ref (b + 1)]) (fun _ _ => rfl) ?_
      refine rx_getf rfl rfl (wg_1 hP) rfl ?_
      refine rx_k 5 (25, [(0, .ref (b + 1)), (1, .int a1), (2, .int a2)], [.int ((a1 * 20) + a2), .ref (b + 9)]) (fun _ _ => rfl) ?_
      refine rx_ild rfl rfl (wg_9 hP) (ar_at (i_mul_add 20 20 rfl (rg_X6_has c0) (rg_isName c1) (by decide) (by decide))) ?_
      refine rx_k 1 (30, [(0, .ref (b + 1)), (1, .int a1), (2, .int a2)], [.int (s 9 ((a1 * 20) + a2).toNatClampNeg)]) (fun _ _ => rfl) ?_
      rw [(show (D_X6_align s a1 a2) = (s 9 ((a1 * 20) + a2).toNatClampNeg) from ((if_neg c0).trans ((if_neg c1).trans rfl)))]
      exact rx_ri rfl
theorem rc_X6_align (hP : WOK b w H0) {s : Sg} {a1 : Int32} {a2 : Int32} : Rc sc 2 102 [.ref (b + 1), .int a1, .int a2] (wd b w wl H0 s, kn) (some (.int (D_X6_align s a1 a2))) (wd b w wl H0 s, kn) := rx_mc (m_X6_align hP) rfl rfl (Nat.ble_eq_true_of_le (Nat.le_refl _)) (Nat.ble_eq_true_of_le (Nat.le_refl _))
-- LinkHarbour$ObjectTable.sectionOf
noncomputable def D_X6_sectionOf (s : Sg) (a1 : Int32) (a2 : Int32) : Int32 := (if (D_X6_has s a1) = 0 then (-1) else (if (D_X11_isName a2) = 0 then (-1) else (s 6 ((a1 * 20) + a2).toNatClampNeg)))
theorem m_X6_sectionOf (hP : WOK b w H0) {s : Sg} {a1 : Int32} {a2 : Int32} : Rx sc g_X6_sectionOf 1 ((0, [(0, .ref (b + 1)), (1, .int a1), (2, .int a2)], [])) (wd b w wl H0 s, kn) (some (.int (D_X6_sectionOf s a1 a2))) (wd b w wl H0 s, kn) := by
  show Rx sc g_X6_sectionOf 1 (0, [(0, .ref (b + 1)), (1, .int a1), (2, .int a2)], []) (wd b w wl H0 s, kn) (some (.int (D_X6_sectionOf s a1 a2))) (wd b w wl H0 s, kn)
  refine rx_k 2 (2, [(0, .ref (b + 1)), (1, .int a1), (2, .int a2)], [.int a1, .ref (b + 1)]) (fun _ _ => rfl) ?_
  refine rx_inv rfl rfl (rc_X6_has hP) rfl rfl rfl (q_recv (wg_1 hP)) rfl rfl ?_
  by_cases c0 : (D_X6_has s a1) = 0
  · refine rx_ifT rfl (bt c0) ?_
    refine rx_k 1 (30, [(0, .ref (b + 1)), (1, .int a1), (2, .int a2)], [.int (-1)]) (fun _ _ => rfl) ?_
    rw [(show (D_X6_sectionOf s a1 a2) = (-1) from ((if_pos c0).trans rfl))]
    exact rx_ri rfl
  · refine rx_ifF rfl (bf c0) rfl ?_
    refine rx_k 1 (9, [(0, .ref (b + 1)), (1, .int a1), (2, .int a2)], [.int a2]) (fun _ _ => rfl) ?_
    refine rx_inv rfl rfl (rc_X11_isName) rfl rfl rfl rfl rfl rfl ?_
    by_cases c1 : (D_X11_isName a2) = 0
    · refine rx_ifT rfl (bt c1) ?_
      refine rx_k 1 (30, [(0, .ref (b + 1)), (1, .int a1), (2, .int a2)], [.int (-1)]) (fun _ _ => rfl) ?_
      rw [(show (D_X6_sectionOf s a1 a2) = (-1) from ((if_neg c0).trans ((if_pos c1).trans rfl)))]
      exact rx_ri rfl
    · refine rx_ifF rfl (bf c1) rfl ?_
      refine rx_k 1 (16, [(0, .ref (b + 1)), (1, .int a1), (2, .int a2)], [.ref (b + 1)]) (fun _ _ => rfl) ?_
      refine rx_getf rfl rfl (wg_1 hP) rfl ?_
      refine rx_k 5 (25, [(0, .ref (b + 1)), (1, .int a1), (2, .int a2)], [.int ((a1 * 20) + a2), .ref (b + 6)]) (fun _ _ => rfl) ?_
      refine rx_ild rfl rfl (wg_6 hP) (ar_at (i_mul_add 20 20 rfl (rg_X6_has c0) (rg_isName c1) (by decide) (by decide))) ?_
      refine rx_k 1 (30, [(0, .ref (b + 1)), (1, .int a1), (2, .int a2)], [.int (s 6 ((a1 * 20) + a2).toNatClampNeg)]) (fun _ _ => rfl) ?_
      rw [(show (D_X6_sectionOf s a1 a2) = (s 6 ((a1 * 20) + a2).toNatClampNeg) from ((if_neg c0).trans ((if_neg c1).trans rfl)))]
      exact rx_ri rfl
theorem rc_X6_sectionOf (hP : WOK b w H0) {s : Sg} {a1 : Int32} {a2 : Int32} : Rc sc 2 99 [.ref (b + 1), .int a1, .int a2] (wd b w wl H0 s, kn) (some (.int (D_X6_sectionOf s a1 a2))) (wd b w wl H0 s, kn) := rx_mc (m_X6_sectionOf hP) rfl rfl (Nat.ble_eq_true_of_le (Nat.le_refl _)) (Nat.ble_eq_true_of_le (Nat.le_refl _))
-- LinkHarbour$ObjectTable.placeOf
noncomputable def D_X6_placeOf (s : Sg) (a1 : Int32) (a2 : Int32) : Int32 := (if (D_X6_has s a1) = 0 then (-1) else (if (D_X11_isName a2) = 0 then (-1) else (s 7 ((a1 * 20) + a2).toNatClampNeg)))
theorem m_X6_placeOf (hP : WOK b w H0) {s : Sg} {a1 : Int32} {a2 : Int32} : Rx sc g_X6_placeOf 1 ((0, [(0, .ref (b + 1)), (1, .int a1), (2, .int a2)], [])) (wd b w wl H0 s, kn) (some (.int (D_X6_placeOf s a1 a2))) (wd b w wl H0 s, kn) := by
  show Rx sc g_X6_placeOf 1 (0, [(0, .ref (b + 1)), (1, .int a1), (2, .int a2)], []) (wd b w wl H0 s, kn) (some (.int (D_X6_placeOf s a1 a2))) (wd b w wl H0 s, kn)
  refine rx_k 2 (2, [(0, .ref (b + 1)), (1, .int a1), (2, .int a2)], [.int a1, .ref (b + 1)]) (fun _ _ => rfl) ?_
  refine rx_inv rfl rfl (rc_X6_has hP) rfl rfl rfl (q_recv (wg_1 hP)) rfl rfl ?_
  by_cases c0 : (D_X6_has s a1) = 0
  · refine rx_ifT rfl (bt c0) ?_
    refine rx_k 1 (30, [(0, .ref (b + 1)), (1, .int a1), (2, .int a2)], [.int (-1)]) (fun _ _ => rfl) ?_
    rw [(show (D_X6_placeOf s a1 a2) = (-1) from ((if_pos c0).trans rfl))]
    exact rx_ri rfl
  · refine rx_ifF rfl (bf c0) rfl ?_
    refine rx_k 1 (9, [(0, .ref (b + 1)), (1, .int a1), (2, .int a2)], [.int a2]) (fun _ _ => rfl) ?_
    refine rx_inv rfl rfl (rc_X11_isName) rfl rfl rfl rfl rfl rfl ?_
    by_cases c1 : (D_X11_isName a2) = 0
    · refine rx_ifT rfl (bt c1) ?_
      refine rx_k 1 (30, [(0, .ref (b + 1)), (1, .int a1), (2, .int a2)], [.int (-1)]) (fun _ _ => rfl) ?_
      rw [(show (D_X6_placeOf s a1 a2) = (-1) from ((if_neg c0).trans ((if_pos c1).trans rfl)))]
      exact rx_ri rfl
    · refine rx_ifF rfl (bf c1) rfl ?_
      refine rx_k 1 (16, [(0, .ref (b + 1)), (1, .int a1), (2, .int a2)], [.ref (b + 1)]) (fun _ _ => rfl) ?_
      refine rx_getf rfl rfl (wg_1 hP) rfl ?_
      refine rx_k 5 (25, [(0, .ref (b + 1)), (1, .int a1), (2, .int a2)], [.int ((a1 * 20) + a2), .ref (b + 7)]) (fun _ _ => rfl) ?_
      refine rx_ild rfl rfl (wg_7 hP) (ar_at (i_mul_add 20 20 rfl (rg_X6_has c0) (rg_isName c1) (by decide) (by decide))) ?_
      refine rx_k 1 (30, [(0, .ref (b + 1)), (1, .int a1), (2, .int a2)], [.int (s 7 ((a1 * 20) + a2).toNatClampNeg)]) (fun _ _ => rfl) ?_
      rw [(show (D_X6_placeOf s a1 a2) = (s 7 ((a1 * 20) + a2).toNatClampNeg) from ((if_neg c0).trans ((if_neg c1).trans rfl)))]
      exact rx_ri rfl
theorem rc_X6_placeOf (hP : WOK b w H0) {s : Sg} {a1 : Int32} {a2 : Int32} : Rc sc 2 100 [.ref (b + 1), .int a1, .int a2] (wd b w wl H0 s, kn) (some (.int (D_X6_placeOf s a1 a2))) (wd b w wl H0 s, kn) := rx_mc (m_X6_placeOf hP) rfl rfl (Nat.ble_eq_true_of_le (Nat.le_refl _)) (Nat.ble_eq_true_of_le (Nat.le_refl _))
-- LinkHarbour$ObjectTable.isHidden
noncomputable def D_X6_isHidden (s : Sg) (a1 : Int32) (a2 : Int32) : Int32 := (if (D_X6_has s a1) = 0 then 0 else (if (D_X11_hasBit (s 10 a1.toNatClampNeg) a2) = 0 then 0 else 1))
theorem m_X6_isHidden (hP : WOK b w H0) {s : Sg} {a1 : Int32} {a2 : Int32} : Rx sc g_X6_isHidden 1 ((0, [(0, .ref (b + 1)), (1, .int a1), (2, .int a2)], [])) (wd b w wl H0 s, kn) (some (.int (D_X6_isHidden s a1 a2))) (wd b w wl H0 s, kn) := by
  show Rx sc g_X6_isHidden 1 (0, [(0, .ref (b + 1)), (1, .int a1), (2, .int a2)], []) (wd b w wl H0 s, kn) (some (.int (D_X6_isHidden s a1 a2))) (wd b w wl H0 s, kn)
  refine rx_k 2 (2, [(0, .ref (b + 1)), (1, .int a1), (2, .int a2)], [.int a1, .ref (b + 1)]) (fun _ _ => rfl) ?_
  refine rx_inv rfl rfl (rc_X6_has hP) rfl rfl rfl (q_recv (wg_1 hP)) rfl rfl ?_
  by_cases c0 : (D_X6_has s a1) = 0
  · refine rx_ifT rfl (bt c0) ?_
    refine rx_k 1 (26, [(0, .ref (b + 1)), (1, .int a1), (2, .int a2)], [.int 0]) (fun _ _ => rfl) ?_
    rw [(show (D_X6_isHidden s a1 a2) = 0 from ((if_pos c0).trans rfl))]
    exact rx_ri rfl
  · refine rx_ifF rfl (bf c0) rfl ?_
    refine rx_k 1 (9, [(0, .ref (b + 1)), (1, .int a1), (2, .int a2)], [.ref (b + 1)]) (fun _ _ => rfl) ?_
    refine rx_getf rfl rfl (wg_1 hP) rfl ?_
    refine rx_k 1 (13, [(0, .ref (b + 1)), (1, .int a1), (2, .int a2)], [.int a1, .ref (b + 10)]) (fun _ _ => rfl) ?_
    refine rx_ild rfl rfl (wg_10 hP) (ar_at (rg_X6_has c0)) ?_
    refine rx_k 1 (15, [(0, .ref (b + 1)), (1, .int a1), (2, .int a2)], [.int a2, .int (s 10 a1.toNatClampNeg)]) (fun _ _ => rfl) ?_
    refine rx_inv rfl rfl (rc_X11_hasBit) rfl rfl rfl rfl rfl rfl ?_
    by_cases c1 : (D_X11_hasBit (s 10 a1.toNatClampNeg) a2) = 0
    · refine rx_ifT rfl (bt c1) ?_
      refine rx_k 1 (26, [(0, .ref (b + 1)), (1, .int a1), (2, .int a2)], [.int 0]) (fun _ _ => rfl) ?_
      rw [(show (D_X6_isHidden s a1 a2) = 0 from ((if_neg c0).trans ((if_pos c1).trans rfl)))]
      exact rx_ri rfl
    · refine rx_ifF rfl (bf c1) rfl ?_
      refine rx_k 2 (26, [(0, .ref (b + 1)), (1, .int a1), (2, .int a2)], [.int 1]) (fun _ _ => rfl) ?_
      rw [(show (D_X6_isHidden s a1 a2) = 1 from ((if_neg c0).trans ((if_neg c1).trans rfl)))]
      exact rx_ri rfl
theorem bz_X6_isHidden {s : Sg} {a1 : Int32} {a2 : Int32} : bz (D_X6_isHidden s a1 a2) = true := by
  by_cases c0 : (D_X6_has s a1) = 0
  · rw [show (D_X6_isHidden s a1 a2) = 0 from ((if_pos c0).trans rfl)]
    exact rfl
  · by_cases c1 : (D_X11_hasBit (s 10 a1.toNatClampNeg) a2) = 0
    · rw [show (D_X6_isHidden s a1 a2) = 0 from ((if_neg c0).trans ((if_pos c1).trans rfl))]
      exact rfl
    · rw [show (D_X6_isHidden s a1 a2) = 1 from ((if_neg c0).trans ((if_neg c1).trans rfl))]
      exact rfl
theorem rc_X6_isHidden (hP : WOK b w H0) {s : Sg} {a1 : Int32} {a2 : Int32} : Rc sc 2 103 [.ref (b + 1), .int a1, .int a2] (wd b w wl H0 s, kn) (some (.int (D_X6_isHidden s a1 a2))) (wd b w wl H0 s, kn) := rx_mc (m_X6_isHidden hP) rfl (bz_X6_isHidden ..) (Nat.ble_eq_true_of_le (Nat.le_refl _)) (Nat.ble_eq_true_of_le (Nat.le_refl _))
-- LinkHarbour$Settling.adopt
noncomputable def D_X9_adopt (q : Nat) (s : Sg) (a1 : Int32) (a2 : Int32) (a3 : Int32) : Sg := (if (D_X11_isName a1) = 0 then s else (if a3 = 1 then (if (D_X6_isHidden (up (up (up (up (up (up s (q + 6) a1.toNatClampNeg a3) (q + 7) a1.toNatClampNeg (-1)) (q + 8) a1.toNatClampNeg (D_X6_sectionOf (up (up s (q + 6) a1.toNatClampNeg a3) (q + 7) a1.toNatClampNeg (-1)) a2 a1)) (q + 9) a1.toNatClampNeg (D_X6_placeOf (up (up (up s (q + 6) a1.toNatClampNeg a3) (q + 7) a1.toNatClampNeg (-1)) (q + 8) a1.toNatClampNeg (D_X6_sectionOf (up (up s (q + 6) a1.toNatClampNeg a3) (q + 7) a1.toNatClampNeg (-1)) a2 a1)) a2 a1)) (q + 10) a1.toNatClampNeg (D_X6_size (up (up (up (up s (q + 6) a1.toNatClampNeg a3) (q + 7) a1.toNatClampNeg (-1)) (q + 8) a1.toNatClampNeg (D_X6_sectionOf (up (up s (q + 6) a1.toNatClampNeg a3) (q + 7) a1.toNatClampNeg (-1)) a2 a1)) (q + 9) a1.toNatClampNeg (D_X6_placeOf (up (up (up s (q + 6) a1.toNatClampNeg a3) (q + 7) a1.toNatClampNeg (-1)) (q + 8) a1.toNatClampNeg (D_X6_sectionOf (up (up s (q + 6) a1.toNatClampNeg a3) (q + 7) a1.toNatClampNeg (-1)) a2 a1)) a2 a1)) a2 a1)) (q + 11) a1.toNatClampNeg (D_X6_align (up (up (up (up (up s (q + 6) a1.toNatClampNeg a3) (q + 7) a1.toNatClampNeg (-1)) (q + 8) a1.toNatClampNeg (D_X6_sectionOf (up (up s (q + 6) a1.toNatClampNeg a3) (q + 7) a1.toNatClampNeg (-1)) a2 a1)) (q + 9) a1.toNatClampNeg (D_X6_placeOf (up (up (up s (q + 6) a1.toNatClampNeg a3) (q + 7) a1.toNatClampNeg (-1)) (q + 8) a1.toNatClampNeg (D_X6_sectionOf (up (up s (q + 6) a1.toNatClampNeg a3) (q + 7) a1.toNatClampNeg (-1)) a2 a1)) a2 a1)) (q + 10) a1.toNatClampNeg (D_X6_size (up (up (up (up s (q + 6) a1.toNatClampNeg a3) (q + 7) a1.toNatClampNeg (-1)) (q + 8) a1.toNatClampNeg (D_X6_sectionOf (up (up s (q + 6) a1.toNatClampNeg a3) (q + 7) a1.toNatClampNeg (-1)) a2 a1)) (q + 9) a1.toNatClampNeg (D_X6_placeOf (up (up (up s (q + 6) a1.toNatClampNeg a3) (q + 7) a1.toNatClampNeg (-1)) (q + 8) a1.toNatClampNeg (D_X6_sectionOf (up (up s (q + 6) a1.toNatClampNeg a3) (q + 7) a1.toNatClampNeg (-1)) a2 a1)) a2 a1)) a2 a1)) a2 a1)) a2 a1) = 0 then (up (up (up (up (up (up (up s (q + 6) a1.toNatClampNeg a3) (q + 7) a1.toNatClampNeg (-1)) (q + 8) a1.toNatClampNeg (D_X6_sectionOf (up (up s (q + 6) a1.toNatClampNeg a3) (q + 7) a1.toNatClampNeg (-1)) a2 a1)) (q + 9) a1.toNatClampNeg (D_X6_placeOf (up (up (up s (q + 6) a1.toNatClampNeg a3) (q + 7) a1.toNatClampNeg (-1)) (q + 8) a1.toNatClampNeg (D_X6_sectionOf (up (up s (q + 6) a1.toNatClampNeg a3) (q + 7) a1.toNatClampNeg (-1)) a2 a1)) a2 a1)) (q + 10) a1.toNatClampNeg (D_X6_size (up (up (up (up s (q + 6) a1.toNatClampNeg a3) (q + 7) a1.toNatClampNeg (-1)) (q + 8) a1.toNatClampNeg (D_X6_sectionOf (up (up s (q + 6) a1.toNatClampNeg a3) (q + 7) a1.toNatClampNeg (-1)) a2 a1)) (q + 9) a1.toNatClampNeg (D_X6_placeOf (up (up (up s (q + 6) a1.toNatClampNeg a3) (q + 7) a1.toNatClampNeg (-1)) (q + 8) a1.toNatClampNeg (D_X6_sectionOf (up (up s (q + 6) a1.toNatClampNeg a3) (q + 7) a1.toNatClampNeg (-1)) a2 a1)) a2 a1)) a2 a1)) (q + 11) a1.toNatClampNeg (D_X6_align (up (up (up (up (up s (q + 6) a1.toNatClampNeg a3) (q + 7) a1.toNatClampNeg (-1)) (q + 8) a1.toNatClampNeg (D_X6_sectionOf (up (up s (q + 6) a1.toNatClampNeg a3) (q + 7) a1.toNatClampNeg (-1)) a2 a1)) (q + 9) a1.toNatClampNeg (D_X6_placeOf (up (up (up s (q + 6) a1.toNatClampNeg a3) (q + 7) a1.toNatClampNeg (-1)) (q + 8) a1.toNatClampNeg (D_X6_sectionOf (up (up s (q + 6) a1.toNatClampNeg a3) (q + 7) a1.toNatClampNeg (-1)) a2 a1)) a2 a1)) (q + 10) a1.toNatClampNeg (D_X6_size (up (up (up (up s (q + 6) a1.toNatClampNeg a3) (q + 7) a1.toNatClampNeg (-1)) (q + 8) a1.toNatClampNeg (D_X6_sectionOf (up (up s (q + 6) a1.toNatClampNeg a3) (q + 7) a1.toNatClampNeg (-1)) a2 a1)) (q + 9) a1.toNatClampNeg (D_X6_placeOf (up (up (up s (q + 6) a1.toNatClampNeg a3) (q + 7) a1.toNatClampNeg (-1)) (q + 8) a1.toNatClampNeg (D_X6_sectionOf (up (up s (q + 6) a1.toNatClampNeg a3) (q + 7) a1.toNatClampNeg (-1)) a2 a1)) a2 a1)) a2 a1)) a2 a1)) (q + 5) 8 ((s (q + 5) 8) &&& ((1 <<< (a1 &&& 31)) ^^^ (-1)))) else (up (up (up (up (up (up (up s (q + 6) a1.toNatClampNeg a3) (q + 7) a1.toNatClampNeg (-1)) (q + 8) a1.toNatClampNeg (D_X6_sectionOf (up (up s (q + 6) a1.toNatClampNeg a3) (q + 7) a1.toNatClampNeg (-1)) a2 a1)) (q + 9) a1.toNatClampNeg (D_X6_placeOf (up (up (up s (q + 6) a1.toNatClampNeg a3) (q + 7) a1.toNatClampNeg (-1)) (q + 8) a1.toNatClampNeg (D_X6_sectionOf (up (up s (q + 6) a1.toNatClampNeg a3) (q + 7) a1.toNatClampNeg (-1)) a2 a1)) a2 a1)) (q + 10) a1.toNatClampNeg (D_X6_size (up (up (up (up s (q + 6) a1.toNatClampNeg a3) (q + 7) a1.toNatClampNeg (-1)) (q + 8) a1.toNatClampNeg (D_X6_sectionOf (up (up s (q + 6) a1.toNatClampNeg a3) (q + 7) a1.toNatClampNeg (-1)) a2 a1)) (q + 9) a1.toNatClampNeg (D_X6_placeOf (up (up (up s (q + 6) a1.toNatClampNeg a3) (q + 7) a1.toNatClampNeg (-1)) (q + 8) a1.toNatClampNeg (D_X6_sectionOf (up (up s (q + 6) a1.toNatClampNeg a3) (q + 7) a1.toNatClampNeg (-1)) a2 a1)) a2 a1)) a2 a1)) (q + 11) a1.toNatClampNeg (D_X6_align (up (up (up (up (up s (q + 6) a1.toNatClampNeg a3) (q + 7) a1.toNatClampNeg (-1)) (q + 8) a1.toNatClampNeg (D_X6_sectionOf (up (up s (q + 6) a1.toNatClampNeg a3) (q + 7) a1.toNatClampNeg (-1)) a2 a1)) (q + 9) a1.toNatClampNeg (D_X6_placeOf (up (up (up s (q + 6) a1.toNatClampNeg a3) (q + 7) a1.toNatClampNeg (-1)) (q + 8) a1.toNatClampNeg (D_X6_sectionOf (up (up s (q + 6) a1.toNatClampNeg a3) (q + 7) a1.toNatClampNeg (-1)) a2 a1)) a2 a1)) (q + 10) a1.toNatClampNeg (D_X6_size (up (up (up (up s (q + 6) a1.toNatClampNeg a3) (q + 7) a1.toNatClampNeg (-1)) (q + 8) a1.toNatClampNeg (D_X6_sectionOf (up (up s (q + 6) a1.toNatClampNeg a3) (q + 7) a1.toNatClampNeg (-1)) a2 a1)) (q + 9) a1.toNatClampNeg (D_X6_placeOf (up (up (up s (q + 6) a1.toNatClampNeg a3) (q + 7) a1.toNatClampNeg (-1)) (q + 8) a1.toNatClampNeg (D_X6_sectionOf (up (up s (q + 6) a1.toNatClampNeg a3) (q + 7) a1.toNatClampNeg (-1)) a2 a1)) a2 a1)) a2 a1)) a2 a1)) (q + 5) 8 ((s (q + 5) 8) ||| (1 <<< (a1 &&& 31))))) else (if (D_X6_isHidden (up (up (up (up (up (up s (q + 6) a1.toNatClampNeg a3) (q + 7) a1.toNatClampNeg a2) (q + 8) a1.toNatClampNeg (D_X6_sectionOf (up (up s (q + 6) a1.toNatClampNeg a3) (q + 7) a1.toNatClampNeg a2) a2 a1)) (q + 9) a1.toNatClampNeg (D_X6_placeOf (up (up (up s (q + 6) a1.toNatClampNeg a3) (q + 7) a1.toNatClampNeg a2) (q + 8) a1.toNatClampNeg (D_X6_sectionOf (up (up s (q + 6) a1.toNatClampNeg a3) (q + 7) a1.toNatClampNeg a2) a2 a1)) a2 a1)) (q + 10) a1.toNatClampNeg (D_X6_size (up (up (up (up s (q + 6) a1.toNatClampNeg a3) (q + 7) a1.toNatClampNeg a2) (q + 8) a1.toNatClampNeg (D_X6_sectionOf (up (up s (q + 6) a1.toNatClampNeg a3) (q + 7) a1.toNatClampNeg a2) a2 a1)) (q + 9) a1.toNatClampNeg (D_X6_placeOf (up (up (up s (q + 6) a1.toNatClampNeg a3) (q + 7) a1.toNatClampNeg a2) (q + 8) a1.toNatClampNeg (D_X6_sectionOf (up (up s (q + 6) a1.toNatClampNeg a3) (q + 7) a1.toNatClampNeg a2) a2 a1)) a2 a1)) a2 a1)) (q + 11) a1.toNatClampNeg (D_X6_align (up (up (up (up (up s (q + 6) a1.toNatClampNeg a3) (q + 7) a1.toNatClampNeg a2) (q + 8) a1.toNatClampNeg (D_X6_sectionOf (up (up s (q + 6) a1.toNatClampNeg a3) (q + 7) a1.toNatClampNeg a2) a2 a1)) (q + 9) a1.toNatClampNeg (D_X6_placeOf (up (up (up s (q + 6) a1.toNatClampNeg a3) (q + 7) a1.toNatClampNeg a2) (q + 8) a1.toNatClampNeg (D_X6_sectionOf (up (up s (q + 6) a1.toNatClampNeg a3) (q + 7) a1.toNatClampNeg a2) a2 a1)) a2 a1)) (q + 10) a1.toNatClampNeg (D_X6_size (up (up (up (up s (q + 6) a1.toNatClampNeg a3) (q + 7) a1.toNatClampNeg a2) (q + 8) a1.toNatClampNeg (D_X6_sectionOf (up (up s (q + 6) a1.toNatClampNeg a3) (q + 7) a1.toNatClampNeg a2) a2 a1)) (q + 9) a1.toNatClampNeg (D_X6_placeOf (up (up (up s (q + 6) a1.toNatClampNeg a3) (q + 7) a1.toNatClampNeg a2) (q + 8) a1.toNatClampNeg (D_X6_sectionOf (up (up s (q + 6) a1.toNatClampNeg a3) (q + 7) a1.toNatClampNeg a2) a2 a1)) a2 a1)) a2 a1)) a2 a1)) a2 a1) = 0 then (up (up (up (up (up (up (up s (q + 6) a1.toNatClampNeg a3) (q + 7) a1.toNatClampNeg a2) (q + 8) a1.toNatClampNeg (D_X6_sectionOf (up (up s (q + 6) a1.toNatClampNeg a3) (q + 7) a1.toNatClampNeg a2) a2 a1)) (q + 9) a1.toNatClampNeg (D_X6_placeOf (up (up (up s (q + 6) a1.toNatClampNeg a3) (q + 7) a1.toNatClampNeg a2) (q + 8) a1.toNatClampNeg (D_X6_sectionOf (up (up s (q + 6) a1.toNatClampNeg a3) (q + 7) a1.toNatClampNeg a2) a2 a1)) a2 a1)) (q + 10) a1.toNatClampNeg (D_X6_size (up (up (up (up s (q + 6) a1.toNatClampNeg a3) (q + 7) a1.toNatClampNeg a2) (q + 8) a1.toNatClampNeg (D_X6_sectionOf (up (up s (q + 6) a1.toNatClampNeg a3) (q + 7) a1.toNatClampNeg a2) a2 a1)) (q + 9) a1.toNatClampNeg (D_X6_placeOf (up (up (up s (q + 6) a1.toNatClampNeg a3) (q + 7) a1.toNatClampNeg a2) (q + 8) a1.toNatClampNeg (D_X6_sectionOf (up (up s (q + 6) a1.toNatClampNeg a3) (q + 7) a1.toNatClampNeg a2) a2 a1)) a2 a1)) a2 a1)) (q + 11) a1.toNatClampNeg (D_X6_align (up (up (up (up (up s (q + 6) a1.toNatClampNeg a3) (q + 7) a1.toNatClampNeg a2) (q + 8) a1.toNatClampNeg (D_X6_sectionOf (up (up s (q + 6) a1.toNatClampNeg a3) (q + 7) a1.toNatClampNeg a2) a2 a1)) (q + 9) a1.toNatClampNeg (D_X6_placeOf (up (up (up s (q + 6) a1.toNatClampNeg a3) (q + 7) a1.toNatClampNeg a2) (q + 8) a1.toNatClampNeg (D_X6_sectionOf (up (up s (q + 6) a1.toNatClampNeg a3) (q + 7) a1.toNatClampNeg a2) a2 a1)) a2 a1)) (q + 10) a1.toNatClampNeg (D_X6_size (up (up (up (up s (q + 6) a1.toNatClampNeg a3) (q + 7) a1.toNatClampNeg a2) (q + 8) a1.toNatClampNeg (D_X6_sectionOf (up (up s (q + 6) a1.toNatClampNeg a3) (q + 7) a1.toNatClampNeg a2) a2 a1)) (q + 9) a1.toNatClampNeg (D_X6_placeOf (up (up (up s (q + 6) a1.toNatClampNeg a3) (q + 7) a1.toNatClampNeg a2) (q + 8) a1.toNatClampNeg (D_X6_sectionOf (up (up s (q + 6) a1.toNatClampNeg a3) (q + 7) a1.toNatClampNeg a2) a2 a1)) a2 a1)) a2 a1)) a2 a1)) (q + 5) 8 ((s (q + 5) 8) &&& ((1 <<< (a1 &&& 31)) ^^^ (-1)))) else (up (up (up (up (up (up (up s (q + 6) a1.toNatClampNeg a3) (q + 7) a1.toNatClampNeg a2) (q + 8) a1.toNatClampNeg (D_X6_sectionOf (up (up s (q + 6) a1.toNatClampNeg a3) (q + 7) a1.toNatClampNeg a2) a2 a1)) (q + 9) a1.toNatClampNeg (D_X6_placeOf (up (up (up s (q + 6) a1.toNatClampNeg a3) (q + 7) a1.toNatClampNeg a2) (q + 8) a1.toNatClampNeg (D_X6_sectionOf (up (up s (q + 6) a1.toNatClampNeg a3) (q + 7) a1.toNatClampNeg a2) a2 a1)) a2 a1)) (q + 10) a1.toNatClampNeg (D_X6_size (up (up (up (up s (q + 6) a1.toNatClampNeg a3) (q + 7) a1.toNatClampNeg a2) (q + 8) a1.toNatClampNeg (D_X6_sectionOf (up (up s (q + 6) a1.toNatClampNeg a3) (q + 7) a1.toNatClampNeg a2) a2 a1)) (q + 9) a1.toNatClampNeg (D_X6_placeOf (up (up (up s (q + 6) a1.toNatClampNeg a3) (q + 7) a1.toNatClampNeg a2) (q + 8) a1.toNatClampNeg (D_X6_sectionOf (up (up s (q + 6) a1.toNatClampNeg a3) (q + 7) a1.toNatClampNeg a2) a2 a1)) a2 a1)) a2 a1)) (q + 11) a1.toNatClampNeg (D_X6_align (up (up (up (up (up s (q + 6) a1.toNatClampNeg a3) (q + 7) a1.toNatClampNeg a2) (q + 8) a1.toNatClampNeg (D_X6_sectionOf (up (up s (q + 6) a1.toNatClampNeg a3) (q + 7) a1.toNatClampNeg a2) a2 a1)) (q + 9) a1.toNatClampNeg (D_X6_placeOf (up (up (up s (q + 6) a1.toNatClampNeg a3) (q + 7) a1.toNatClampNeg a2) (q + 8) a1.toNatClampNeg (D_X6_sectionOf (up (up s (q + 6) a1.toNatClampNeg a3) (q + 7) a1.toNatClampNeg a2) a2 a1)) a2 a1)) (q + 10) a1.toNatClampNeg (D_X6_size (up (up (up (up s (q + 6) a1.toNatClampNeg a3) (q + 7) a1.toNatClampNeg a2) (q + 8) a1.toNatClampNeg (D_X6_sectionOf (up (up s (q + 6) a1.toNatClampNeg a3) (q + 7) a1.toNatClampNeg a2) a2 a1)) (q + 9) a1.toNatClampNeg (D_X6_placeOf (up (up (up s (q + 6) a1.toNatClampNeg a3) (q + 7) a1.toNatClampNeg a2) (q + 8) a1.toNatClampNeg (D_X6_sectionOf (up (up s (q + 6) a1.toNatClampNeg a3) (q + 7) a1.toNatClampNeg a2) a2 a1)) a2 a1)) a2 a1)) a2 a1)) (q + 5) 8 ((s (q + 5) 8) ||| (1 <<< (a1 &&& 31)))))))
theorem m_X9_adopt (hP : WOK b w H0) {q : Nat} (hq : q = 38 ∨ q = 60) {s : Sg} {a1 : Int32} {a2 : Int32} {a3 : Int32} (hN : NN s) : Rx sc g_X9_adopt 2 ((0, [(0, .ref (b + (q + 5))), (1, .int a1), (2, .int a2), (3, .int a3)], [])) (wd b w wl H0 s, kn) none (wd b w wl H0 (D_X9_adopt q s a1 a2 a3), kn) := by
  show Rx sc g_X9_adopt 2 (0, [(0, .ref (b + (q + 5))), (1, .int a1), (2, .int a2), (3, .int a3)], []) (wd b w wl H0 s, kn) none (wd b w wl H0 (D_X9_adopt q s a1 a2 a3), kn)
  refine rx_k 1 (1, [(0, .ref (b + (q + 5))), (1, .int a1), (2, .int a2), (3, .int a3)], [.int a1]) (fun _ _ => rfl) ?_
  refine rx_inv rfl rfl (rc_X11_isName) rfl rfl rfl rfl rfl rfl ?_
  by_cases c0 : (D_X11_isName a1) = 0
  · refine rx_ifF rfl (nf c0) rfl ?_
    rw [(show (D_X9_adopt q s a1 a2 a3) = s from ((if_pos c0).trans rfl))]
    exact rx_rv rfl
  · refine rx_ifT rfl (nt c0) ?_
    refine rx_k 1 (9, [(0, .ref (b + (q + 5))), (1, .int a1), (2, .int a2), (3, .int a3)], [.ref (b + (q + 5))]) (fun _ _ => rfl) ?_
    refine rx_getf rfl rfl (wl_5 hP hq) rfl ?_
    refine rx_k 2 (14, [(0, .ref (b + (q + 5))), (1, .int a1), (2, .int a2), (3, .int a3)], [.int a3, .int a1, .ref (b + (q + 6))]) (fun _ _ => rfl) ?_
    refine rx_ist rfl rfl (wl_6 hP hq) rfl (ar_at (rg_isName c0)) (wz_6 hP hq (rg_isName c0)) ?_
    refine rx_k 1 (16, [(0, .ref (b + (q + 5))), (1, .int a1), (2, .int a2), (3, .int a3)], [.ref (b + (q + 5))]) (fun _ _ => rfl) ?_
    refine rx_getf rfl rfl (wl_5 hP hq) rfl ?_
    refine rx_k 3 (22, [(0, .ref (b + (q + 5))), (1, .int a1), (2, .int a2), (3, .int a3)], [.int 1, .int a3, .int a1, .ref (b + (q + 7))]) (fun _ _ => rfl) ?_
    by_cases c1 : a3 = 1
    · refine rx_icF rfl (nf c1) rfl ?_
      refine rx_k 2 (30, [(0, .ref (b + (q + 5))), (1, .int a1), (2, .int a2), (3, .int a3)], [.int (-1), .int a1, .ref (b + (q + 7))]) (fun _ _ => rfl) ?_
      refine rx_ist rfl rfl (wl_7 hP hq) rfl (ar_at (rg_isName c0)) (wz_7 hP hq (rg_isName c0)) ?_
      refine rx_k 1 (32, [(0, .ref (b + (q + 5))), (1, .int a1), (2, .int a2), (3, .int a3)], [.ref (b + (q + 5))]) (fun _ _ => rfl) ?_
      refine rx_getf rfl rfl (wl_5 hP hq) rfl ?_
      refine rx_k 2 (37, [(0, .ref (b + (q + 5))), (1, .int a1), (2, .int a2), (3, .int a3)], [.ref (b + (q + 5)), .int a1, .ref (b + (q + 8))]) (fun _ _ => rfl) ?_
      refine rx_getf rfl rfl (wl_5 hP hq) rfl ?_
      refine rx_k 2 (42, [(0, .ref (b + (q + 5))), (1, .int a1), (2, .int a2), (3, .int a3)], [.int a1, .int a2, .ref (b + 1), .int a1, .ref (b + (q + 8))]) (fun _ _ => rfl) ?_
      refine rx_inv rfl rfl (rc_X6_sectionOf hP) rfl rfl rfl (q_recv (wg_1 hP)) rfl rfl ?_
      refine rx_ist rfl rfl (wl_8 hP hq) rfl (ar_at (rg_isName c0)) (wz_8 hP hq (rg_isName c0)) ?_
      refine rx_k 1 (47, [(0, .ref (b + (q + 5))), (1, .int a1), (2, .int a2), (3, .int a3)], [.ref (b + (q + 5))]) (fun _ _ => rfl) ?_
      refine rx_getf rfl rfl (wl_5 hP hq) rfl ?_
      refine rx_k 2 (52, [(0, .ref (b + (q + 5))), (1, .int a1), (2, .int a2), (3, .int a3)], [.ref (b + (q + 5)), .int a1, .ref (b + (q + 9))]) (fun _ _ => rfl) ?_
      refine rx_getf rfl rfl (wl_5 hP hq) rfl ?_
      refine rx_k 2 (57, [(0, .ref (b + (q + 5))), (1, .int a1), (2, .int a2), (3, .int a3)], [.int a1, .int a2, .ref (b + 1), .int a1, .ref (b + (q + 9))]) (fun _ _ => rfl) ?_
      refine rx_inv rfl rfl (rc_X6_placeOf hP) rfl rfl rfl (q_recv (wg_1 hP)) rfl rfl ?_
      refine rx_ist rfl rfl (wl_9 hP hq) rfl (ar_at (rg_isName c0)) (wz_9 hP hq (rg_isName c0)) ?_
      refine rx_k 1 (62, [(0, .ref (b + (q + 5))), (1, .int a1), (2, .int a2), (3, .int a3)], [.ref (b + (q + 5))]) (fun _ _ => rfl) ?_
      refine rx_getf rfl rfl (wl_5 hP hq) rfl ?_
      refine rx_k 2 (67, [(0, .ref (b + (q + 5))), (1, .int a1), (2, .int a2), (3, .int a3)], [.ref (b + (q + 5)), .int a1, .ref (b + (q + 10))]) (fun _ _ => rfl) ?_
      refine rx_getf rfl rfl (wl_5 hP hq) rfl ?_
      refine rx_k 2 (72, [(0, .ref (b + (q + 5))), (1, .int a1), (2, .int a2), (3, .int a3)], [.int a1, .int a2, .ref (b + 1), .int a1, .ref (b + (q + 10))]) (fun _ _ => rfl) ?_
      refine rx_inv rfl rfl (rc_X6_size hP) rfl rfl rfl (q_recv (wg_1 hP)) rfl rfl ?_
      refine rx_ist rfl rfl (wl_10 hP hq) rfl (ar_at (rg_isName c0)) (wz_10 hP hq (rg_isName c0)) ?_
      refine rx_k 1 (77, [(0, .ref (b + (q + 5))), (1, .int a1), (2, .int a2), (3, .int a3)], [.ref (b + (q + 5))]) (fun _ _ => rfl) ?_
      refine rx_getf rfl rfl (wl_5 hP hq) rfl ?_
      refine rx_k 2 (82, [(0, .ref (b + (q + 5))), (1, .int a1), (2, .int a2), (3, .int a3)], [.ref (b + (q + 5)), .int a1, .ref (b + (q + 11))]) (fun _ _ => rfl) ?_
      refine rx_getf rfl rfl (wl_5 hP hq) rfl ?_
      refine rx_k 2 (87, [(0, .ref (b + (q + 5))), (1, .int a1), (2, .int a2), (3, .int a3)], [.int a1, .int a2, .ref (b + 1), .int a1, .ref (b + (q + 11))]) (fun _ _ => rfl) ?_
      refine rx_inv rfl rfl (rc_X6_align hP) rfl rfl rfl (q_recv (wg_1 hP)) rfl rfl ?_
      refine rx_ist rfl rfl (wl_11 hP hq) rfl (ar_at (rg_isName c0)) (wz_11 hP hq (rg_isName c0)) ?_
      refine rx_k 1 (92, [(0, .ref (b + (q + 5))), (1, .int a1), (2, .int a2), (3, .int a3)], [.ref (b + (q + 5))]) (fun _ _ => rfl) ?_
      refine rx_getf rfl rfl (wl_5 hP hq) rfl ?_
      refine rx_k 2 (97, [(0, .ref (b + (q + 5))), (1, .int a1), (2, .int a2), (3, .int a3)], [.int a1, .int a2, .ref (b + 1)]) (fun _ _ => rfl) ?_
      refine rx_inv rfl rfl (rc_X6_isHidden hP) rfl rfl rfl (q_recv (wg_1 hP)) rfl rfl ?_
      by_cases c2 : (D_X6_isHidden (up (up (up (up (up (up s (q + 6) a1.toNatClampNeg a3) (q + 7) a1.toNatClampNeg (-1)) (q + 8) a1.toNatClampNeg (D_X6_sectionOf (up (up s (q + 6) a1.toNatClampNeg a3) (q + 7) a1.toNatClampNeg (-1)) a2 a1)) (q + 9) a1.toNatClampNeg (D_X6_placeOf (up (up (up s (q + 6) a1.toNatClampNeg a3) (q + 7) a1.toNatClampNeg (-1)) (q + 8) a1.toNatClampNeg (D_X6_sectionOf (up (up s (q + 6) a1.toNatClampNeg a3) (q + 7) a1.toNatClampNeg (-1)) a2 a1)) a2 a1)) (q + 10) a1.toNatClampNeg (D_X6_size (up (up (up (up s (q + 6) a1.toNatClampNeg a3) (q + 7) a1.toNatClampNeg (-1)) (q + 8) a1.toNatClampNeg (D_X6_sectionOf (up (up s (q + 6) a1.toNatClampNeg a3) (q + 7) a1.toNatClampNeg (-1)) a2 a1)) (q + 9) a1.toNatClampNeg (D_X6_placeOf (up (up (up s (q + 6) a1.toNatClampNeg a3) (q + 7) a1.toNatClampNeg (-1)) (q + 8) a1.toNatClampNeg (D_X6_sectionOf (up (up s (q + 6) a1.toNatClampNeg a3) (q + 7) a1.toNatClampNeg (-1)) a2 a1)) a2 a1)) a2 a1)) (q + 11) a1.toNatClampNeg (D_X6_align (up (up (up (up (up s (q + 6) a1.toNatClampNeg a3) (q + 7) a1.toNatClampNeg (-1)) (q + 8) a1.toNatClampNeg (D_X6_sectionOf (up (up s (q + 6) a1.toNatClampNeg a3) (q + 7) a1.toNatClampNeg (-1)) a2 a1)) (q + 9) a1.toNatClampNeg (D_X6_placeOf (up (up (up s (q + 6) a1.toNatClampNeg a3) (q + 7) a1.toNatClampNeg (-1)) (q + 8) a1.toNatClampNeg (D_X6_sectionOf (up (up s (q + 6) a1.toNatClampNeg a3) (q + 7) a1.toNatClampNeg (-1)) a2 a1)) a2 a1)) (q + 10) a1.toNatClampNeg (D_X6_size (up (up (up (up s (q + 6) a1.toNatClampNeg a3) (q + 7) a1.toNatClampNeg (-1)) (q + 8) a1.toNatClampNeg (D_X6_sectionOf (up (up s (q + 6) a1.toNatClampNeg a3) (q + 7) a1.toNatClampNeg (-1)) a2 a1)) (q + 9) a1.toNatClampNeg (D_X6_placeOf (up (up (up s (q + 6) a1.toNatClampNeg a3) (q + 7) a1.toNatClampNeg (-1)) (q + 8) a1.toNatClampNeg (D_X6_sectionOf (up (up s (q + 6) a1.toNatClampNeg a3) (q + 7) a1.toNatClampNeg (-1)) a2 a1)) a2 a1)) a2 a1)) a2 a1)) a2 a1) = 0
      · refine rx_ifT rfl (bt c2) ?_
        refine rx_k 2 (120, [(0, .ref (b + (q + 5))), (1, .int a1), (2, .int a2), (3, .int a3)], [.ref (b + (q + 5)), .ref (b + (q + 5))]) (fun _ _ => rfl) ?_
        refine rx_getf (v := .int (s (q + 5) 8)) rfl rfl (wl_5 hP hq) (congrArg (fun z => some (Value.int z)) ((((((rd_nk (by omega)).trans (rd_nk (by omega))).trans (rd_nk (by omega))).trans (rd_nk (by omega))).trans (rd_nk (by omega))).trans (rd_nk (by omega)))) ?_
        refine rx_k 6 (129, [(0, .ref (b + (q + 5))), (1, .int a1), (2, .int a2), (3, .int a3)], [.int ((s (q + 5) 8) &&& ((1 <<< (a1 &&& 31)) ^^^ (-1))), .ref (b + (q + 5))]) (fun _ _ => rfl) ?_
        refine rx_putf rfl rfl (wl_5 hP hq) rfl (wz_5_8 hP hq) ?_
        rw [(show (D_X9_adopt q s a1 a2 a3) = (up (up (up (up (up (up (up s (q + 6) a1.toNatClampNeg a3) (q + 7) a1.toNatClampNeg (-1)) (q + 8) a1.toNatClampNeg (D_X6_sectionOf (up (up s (q + 6) a1.toNatClampNeg a3) (q + 7) a1.toNatClampNeg (-1)) a2 a1)) (q + 9) a1.toNatClampNeg (D_X6_placeOf (up (up (up s (q + 6) a1.toNatClampNeg a3) (q + 7) a1.toNatClampNeg (-1)) (q + 8) a1.toNatClampNeg (D_X6_sectionOf (up (up s (q + 6) a1.toNatClampNeg a3) (q + 7) a1.toNatClampNeg (-1)) a2 a1)) a2 a1)) (q + 10) a1.toNatClampNeg (D_X6_size (up (up (up (up s (q + 6) a1.toNatClampNeg a3) (q + 7) a1.toNatClampNeg (-1)) (q + 8) a1.toNatClampNeg (D_X6_sectionOf (up (up s (q + 6) a1.toNatClampNeg a3) (q + 7) a1.toNatClampNeg (-1)) a2 a1)) (q + 9) a1.toNatClampNeg (D_X6_placeOf (up (up (up s (q + 6) a1.toNatClampNeg a3) (q + 7) a1.toNatClampNeg (-1)) (q + 8) a1.toNatClampNeg (D_X6_sectionOf (up (up s (q + 6) a1.toNatClampNeg a3) (q + 7) a1.toNatClampNeg (-1)) a2 a1)) a2 a1)) a2 a1)) (q + 11) a1.toNatClampNeg (D_X6_align (up (up (up (up (up s (q + 6) a1.toNatClampNeg a3) (q + 7) a1.toNatClampNeg (-1)) (q + 8) a1.toNatClampNeg (D_X6_sectionOf (up (up s (q + 6) a1.toNatClampNeg a3) (q + 7) a1.toNatClampNeg (-1)) a2 a1)) (q + 9) a1.toNatClampNeg (D_X6_placeOf (up (up (up s (q + 6) a1.toNatClampNeg a3) (q + 7) a1.toNatClampNeg (-1)) (q + 8) a1.toNatClampNeg (D_X6_sectionOf (up (up s (q + 6) a1.toNatClampNeg a3) (q + 7) a1.toNatClampNeg (-1)) a2 a1)) a2 a1)) (q + 10) a1.toNatClampNeg (D_X6_size (up (up (up (up s (q + 6) a1.toNatClampNeg a3) (q + 7) a1.toNatClampNeg (-1)) (q + 8) a1.toNatClampNeg (D_X6_sectionOf (up (up s (q + 6) a1.toNatClampNeg a3) (q + 7) a1.toNatClampNeg (-1)) a2 a1)) (q + 9) a1.toNatClampNeg (D_X6_placeOf (up (up (up s (q + 6) a1.toNatClampNeg a3) (q + 7) a1.toNatClampNeg (-1)) (q + 8) a1.toNatClampNeg (D_X6_sectionOf (up (up s (q + 6) a1.toNatClampNeg a3) (q + 7) a1.toNatClampNeg (-1)) a2 a1)) a2 a1)) a2 a1)) a2 a1)) (q + 5) 8 ((s (q + 5) 8) &&& ((1 <<< (a1 &&& 31)) ^^^ (-1)))) from ((if_neg c0).trans ((if_pos c1).trans ((if_pos c2).trans rfl))))]
        exact rx_rv rfl
      · refine rx_ifF rfl (bf c2) rfl ?_
        refine rx_k 2 (105, [(0, .ref (b + (q + 5))), (1, .int a1), (2, .int a2), (3, .int a3)], [.ref (b + (q + 5)), .ref (b + (q + 5))]) (fun _ _ => rfl) ?_
        refine rx_getf (v := .int (s (q + 5) 8)) rfl rfl (wl_5 hP hq) (congrArg (fun z => some (Value.int z)) ((((((rd_nk (by omega)).trans (rd_nk (by omega))).trans (rd_nk (by omega))).trans (rd_nk (by omega))).trans (rd_nk (by omega))).trans (rd_nk (by omega)))) ?_
        refine rx_k 4 (112, [(0, .ref (b + (q + 5))), (1, .int a1), (2, .int a2), (3, .int a3)], [.int ((s (q + 5) 8) ||| (1 <<< (a1 &&& 31))), .ref (b + (q + 5))]) (fun _ _ => rfl) ?_
        refine rx_putf rfl rfl (wl_5 hP hq) rfl (wz_5_8 hP hq) ?_
        refine rx_k 1 (132, [(0, .ref (b + (q + 5))), (1, .int a1), (2, .int a2), (3, .int a3)], []) (fun _ _ => rfl) ?_
        rw [(show (D_X9_adopt q s a1 a2 a3) = (up (up (up (up (up (up (up s (q + 6) a1.toNatClampNeg a3) (q + 7) a1.toNatClampNeg (-1)) (q + 8) a1.toNatClampNeg (D_X6_sectionOf (up (up s (q + 6) a1.toNatClampNeg a3) (q + 7) a1.toNatClampNeg (-1)) a2 a1)) (q + 9) a1.toNatClampNeg (D_X6_placeOf (up (up (up s (q + 6) a1.toNatClampNeg a3) (q + 7) a1.toNatClampNeg (-1)) (q + 8) a1.toNatClampNeg (D_X6_sectionOf (up (up s (q + 6) a1.toNatClampNeg a3) (q + 7) a1.toNatClampNeg (-1)) a2 a1)) a2 a1)) (q + 10) a1.toNatClampNeg (D_X6_size (up (up (up (up s (q + 6) a1.toNatClampNeg a3) (q + 7) a1.toNatClampNeg (-1)) (q + 8) a1.toNatClampNeg (D_X6_sectionOf (up (up s (q + 6) a1.toNatClampNeg a3) (q + 7) a1.toNatClampNeg (-1)) a2 a1)) (q + 9) a1.toNatClampNeg (D_X6_placeOf (up (up (up s (q + 6) a1.toNatClampNeg a3) (q + 7) a1.toNatClampNeg (-1)) (q + 8) a1.toNatClampNeg (D_X6_sectionOf (up (up s (q + 6) a1.toNatClampNeg a3) (q + 7) a1.toNatClampNeg (-1)) a2 a1)) a2 a1)) a2 a1)) (q + 11) a1.toNatClampNeg (D_X6_align (up (up (up (up (up s (q + 6) a1.toNatClampNeg a3) (q + 7) a1.toNatClampNeg (-1)) (q + 8) a1.toNatClampNeg (D_X6_sectionOf (up (up s (q + 6) a1.toNatClampNeg a3) (q + 7) a1.toNatClampNeg (-1)) a2 a1)) (q + 9) a1.toNatClampNeg (D_X6_placeOf (up (up (up s (q + 6) a1.toNatClampNeg a3) (q + 7) a1.toNatClampNeg (-1)) (q + 8) a1.toNatClampNeg (D_X6_sectionOf (up (up s (q + 6) a1.toNatClampNeg a3) (q + 7) a1.toNatClampNeg (-1)) a2 a1)) a2 a1)) (q + 10) a1.toNatClampNeg (D_X6_size (up (up (up (up s (q + 6) a1.toNatClampNeg a3) (q + 7) a1.toNatClampNeg (-1)) (q + 8) a1.toNatClampNeg (D_X6_sectionOf (up (up s (q + 6) a1.toNatClampNeg a3) (q + 7) a1.toNatClampNeg (-1)) a2 a1)) (q + 9) a1.toNatClampNeg (D_X6_placeOf (up (up (up s (q + 6) a1.toNatClampNeg a3) (q + 7) a1.toNatClampNeg (-1)) (q + 8) a1.toNatClampNeg (D_X6_sectionOf (up (up s (q + 6) a1.toNatClampNeg a3) (q + 7) a1.toNatClampNeg (-1)) a2 a1)) a2 a1)) a2 a1)) a2 a1)) (q + 5) 8 ((s (q + 5) 8) ||| (1 <<< (a1 &&& 31)))) from ((if_neg c0).trans ((if_pos c1).trans ((if_neg c2).trans rfl))))]
        exact rx_rv rfl
    · refine rx_icT rfl (nt c1) ?_
      refine rx_k 1 (30, [(0, .ref (b + (q + 5))), (1, .int a1), (2, .int a2), (3, .int a3)], [.int a2, .int a1, .ref (b + (q + 7))]) (fun _ _ => rfl) ?_
      refine rx_ist rfl rfl (wl_7 hP hq) rfl (ar_at (rg_isName c0)) (wz_7 hP hq (rg_isName c0)) ?_
      refine rx_k 1 (32, [(0, .ref (b + (q + 5))), (1, .int a1), (2, .int a2), (3, .int a3)], [.ref (b + (q + 5))]) (fun _ _ => rfl) ?_
      refine rx_getf rfl rfl (wl_5 hP hq) rfl ?_
      refine rx_k 2 (37, [(0, .ref (b + (q + 5))), (1, .int a1), (2, .int a2), (3, .int a3)], [.ref (b + (q + 5)), .int a1, .ref (b + (q + 8))]) (fun _ _ => rfl) ?_
      refine rx_getf rfl rfl (wl_5 hP hq) rfl ?_
      refine rx_k 2 (42, [(0, .ref (b + (q + 5))), (1, .int a1), (2, .int a2), (3, .int a3)], [.int a1, .int a2, .ref (b + 1), .int a1, .ref (b + (q + 8))]) (fun _ _ => rfl) ?_
      refine rx_inv rfl rfl (rc_X6_sectionOf hP) rfl rfl rfl (q_recv (wg_1 hP)) rfl rfl ?_
      refine rx_ist rfl rfl (wl_8 hP hq) rfl (ar_at (rg_isName c0)) (wz_8 hP hq (rg_isName c0)) ?_
      refine rx_k 1 (47, [(0, .ref (b + (q + 5))), (1, .int a1), (2, .int a2), (3, .int a3)], [.ref (b + (q + 5))]) (fun _ _ => rfl) ?_
      refine rx_getf rfl rfl (wl_5 hP hq) rfl ?_
      refine rx_k 2 (52, [(0, .ref (b + (q + 5))), (1, .int a1), (2, .int a2), (3, .int a3)], [.ref (b + (q + 5)), .int a1, .ref (b + (q + 9))]) (fun _ _ => rfl) ?_
      refine rx_getf rfl rfl (wl_5 hP hq) rfl ?_
      refine rx_k 2 (57, [(0, .ref (b + (q + 5))), (1, .int a1), (2, .int a2), (3, .int a3)], [.int a1, .int a2, .ref (b + 1), .int a1, .ref (b + (q + 9))]) (fun _ _ => rfl) ?_
      refine rx_inv rfl rfl (rc_X6_placeOf hP) rfl rfl rfl (q_recv (wg_1 hP)) rfl rfl ?_
      refine rx_ist rfl rfl (wl_9 hP hq) rfl (ar_at (rg_isName c0)) (wz_9 hP hq (rg_isName c0)) ?_
      refine rx_k 1 (62, [(0, .ref (b + (q + 5))), (1, .int a1), (2, .int a2), (3, .int a3)], [.ref (b + (q + 5))]) (fun _ _ => rfl) ?_
      refine rx_getf rfl rfl (wl_5 hP hq) rfl ?_
      refine rx_k 2 (67, [(0, .ref (b + (q + 5))), (1, .int a1), (2, .int a2), (3, .int a3)], [.ref (b + (q + 5)), .int a1, .ref (b + (q + 10))]) (fun _ _ => rfl) ?_
      refine rx_getf rfl rfl (wl_5 hP hq) rfl ?_
      refine rx_k 2 (72, [(0, .ref (b + (q + 5))), (1, .int a1), (2, .int a2), (3, .int a3)], [.int a1, .int a2, .ref (b + 1), .int a1, .ref (b + (q + 10))]) (fun _ _ => rfl) ?_
      refine rx_inv rfl rfl (rc_X6_size hP) rfl rfl rfl (q_recv (wg_1 hP)) rfl rfl ?_
      refine rx_ist rfl rfl (wl_10 hP hq) rfl (ar_at (rg_isName c0)) (wz_10 hP hq (rg_isName c0)) ?_
      refine rx_k 1 (77, [(0, .ref (b + (q + 5))), (1, .int a1), (2, .int a2), (3, .int a3)], [.ref (b + (q + 5))]) (fun _ _ => rfl) ?_
      refine rx_getf rfl rfl (wl_5 hP hq) rfl ?_
      refine rx_k 2 (82, [(0, .ref (b + (q + 5))), (1, .int a1), (2, .int a2), (3, .int a3)], [.ref (b + (q + 5)), .int a1, .ref (b + (q + 11))]) (fun _ _ => rfl) ?_
      refine rx_getf rfl rfl (wl_5 hP hq) rfl ?_
      refine rx_k 2 (87, [(0, .ref (b + (q + 5))), (1, .int a1), (2, .int a2), (3, .int a3)], [.int a1, .int a2, .ref (b + 1), .int a1, .ref (b + (q + 11))]) (fun _ _ => rfl) ?_
      refine rx_inv rfl rfl (rc_X6_align hP) rfl rfl rfl (q_recv (wg_1 hP)) rfl rfl ?_
      refine rx_ist rfl rfl (wl_11 hP hq) rfl (ar_at (rg_isName c0)) (wz_11 hP hq (rg_isName c0)) ?_
      refine rx_k 1 (92, [(0, .ref (b + (q + 5))), (1, .int a1), (2, .int a2), (3, .int a3)], [.ref (b + (q + 5))]) (fun _ _ => rfl) ?_
      refine rx_getf rfl rfl (wl_5 hP hq) rfl ?_
      refine rx_k 2 (97, [(0, .ref (b + (q + 5))), (1, .int a1), (2, .int a2), (3, .int a3)], [.int a1, .int a2, .ref (b + 1)]) (fun _ _ => rfl) ?_
      refine rx_inv rfl rfl (rc_X6_isHidden hP) rfl rfl rfl (q_recv (wg_1 hP)) rfl rfl ?_
      by_cases c3 : (D_X6_isHidden (up (up (up (up (up (up s (q + 6) a1.toNatClampNeg a3) (q + 7) a1.toNatClampNeg a2) (q + 8) a1.toNatClampNeg (D_X6_sectionOf (up (up s (q + 6) a1.toNatClampNeg a3) (q + 7) a1.toNatClampNeg a2) a2 a1)) (q + 9) a1.toNatClampNeg (D_X6_placeOf (up (up (up s (q + 6) a1.toNatClampNeg a3) (q + 7) a1.toNatClampNeg a2) (q + 8) a1.toNatClampNeg (D_X6_sectionOf (up (up s (q + 6) a1.toNatClampNeg a3) (q + 7) a1.toNatClampNeg a2) a2 a1)) a2 a1)) (q + 10) a1.toNatClampNeg (D_X6_size (up (up (up (up s (q + 6) a1.toNatClampNeg a3) (q + 7) a1.toNatClampNeg a2) (q + 8) a1.toNatClampNeg (D_X6_sectionOf (up (up s (q + 6) a1.toNatClampNeg a3) (q + 7) a1.toNatClampNeg a2) a2 a1)) (q + 9) a1.toNatClampNeg (D_X6_placeOf (up (up (up s (q + 6) a1.toNatClampNeg a3) (q + 7) a1.toNatClampNeg a2) (q + 8) a1.toNatClampNeg (D_X6_sectionOf (up (up s (q + 6) a1.toNatClampNeg a3) (q + 7) a1.toNatClampNeg a2) a2 a1)) a2 a1)) a2 a1)) (q + 11) a1.toNatClampNeg (D_X6_align (up (up (up (up (up s (q + 6) a1.toNatClampNeg a3) (q + 7) a1.toNatClampNeg a2) (q + 8) a1.toNatClampNeg (D_X6_sectionOf (up (up s (q + 6) a1.toNatClampNeg a3) (q + 7) a1.toNatClampNeg a2) a2 a1)) (q + 9) a1.toNatClampNeg (D_X6_placeOf (up (up (up s (q + 6) a1.toNatClampNeg a3) (q + 7) a1.toNatClampNeg a2) (q + 8) a1.toNatClampNeg (D_X6_sectionOf (up (up s (q + 6) a1.toNatClampNeg a3) (q + 7) a1.toNatClampNeg a2) a2 a1)) a2 a1)) (q + 10) a1.toNatClampNeg (D_X6_size (up (up (up (up s (q + 6) a1.toNatClampNeg a3) (q + 7) a1.toNatClampNeg a2) (q + 8) a1.toNatClampNeg (D_X6_sectionOf (up (up s (q + 6) a1.toNatClampNeg a3) (q + 7) a1.toNatClampNeg a2) a2 a1)) (q + 9) a1.toNatClampNeg (D_X6_placeOf (up (up (up s (q + 6) a1.toNatClampNeg a3) (q + 7) a1.toNatClampNeg a2) (q + 8) a1.toNatClampNeg (D_X6_sectionOf (up (up s (q + 6) a1.toNatClampNeg a3) (q + 7) a1.toNatClampNeg a2) a2 a1)) a2 a1)) a2 a1)) a2 a1)) a2 a1) = 0
      · refine rx_ifT rfl (bt c3) ?_
        refine rx_k 2 (120, [(0, .ref (b + (q + 5))), (1, .int a1), (2, .int a2), (3, .int a3)], [.ref (b + (q + 5)), .ref (b + (q + 5))]) (fun _ _ => rfl) ?_
        refine rx_getf (v := .int (s (q + 5) 8)) rfl rfl (wl_5 hP hq) (congrArg (fun z => some (Value.int z)) ((((((rd_nk (by omega)).trans (rd_nk (by omega))).trans (rd_nk (by omega))).trans (rd_nk (by omega))).trans (rd_nk (by omega))).trans (rd_nk (by omega)))) ?_
        refine rx_k 6 (129, [(0, .ref (b + (q + 5))), (1, .int a1), (2, .int a2), (3, .int a3)], [.int ((s (q + 5) 8) &&& ((1 <<< (a1 &&& 31)) ^^^ (-1))), .ref (b + (q + 5))]) (fun _ _ => rfl) ?_
        refine rx_putf rfl rfl (wl_5 hP hq) rfl (wz_5_8 hP hq) ?_
        rw [(show (D_X9_adopt q s a1 a2 a3) = (up (up (up (up (up (up (up s (q + 6) a1.toNatClampNeg a3) (q + 7) a1.toNatClampNeg a2) (q + 8) a1.toNatClampNeg (D_X6_sectionOf (up (up s (q + 6) a1.toNatClampNeg a3) (q + 7) a1.toNatClampNeg a2) a2 a1)) (q + 9) a1.toNatClampNeg (D_X6_placeOf (up (up (up s (q + 6) a1.toNatClampNeg a3) (q + 7) a1.toNatClampNeg a2) (q + 8) a1.toNatClampNeg (D_X6_sectionOf (up (up s (q + 6) a1.toNatClampNeg a3) (q + 7) a1.toNatClampNeg a2) a2 a1)) a2 a1)) (q + 10) a1.toNatClampNeg (D_X6_size (up (up (up (up s (q + 6) a1.toNatClampNeg a3) (q + 7) a1.toNatClampNeg a2) (q + 8) a1.toNatClampNeg (D_X6_sectionOf (up (up s (q + 6) a1.toNatClampNeg a3) (q + 7) a1.toNatClampNeg a2) a2 a1)) (q + 9) a1.toNatClampNeg (D_X6_placeOf (up (up (up s (q + 6) a1.toNatClampNeg a3) (q + 7) a1.toNatClampNeg a2) (q + 8) a1.toNatClampNeg (D_X6_sectionOf (up (up s (q + 6) a1.toNatClampNeg a3) (q + 7) a1.toNatClampNeg a2) a2 a1)) a2 a1)) a2 a1)) (q + 11) a1.toNatClampNeg (D_X6_align (up (up (up (up (up s (q + 6) a1.toNatClampNeg a3) (q + 7) a1.toNatClampNeg a2) (q + 8) a1.toNatClampNeg (D_X6_sectionOf (up (up s (q + 6) a1.toNatClampNeg a3) (q + 7) a1.toNatClampNeg a2) a2 a1)) (q + 9) a1.toNatClampNeg (D_X6_placeOf (up (up (up s (q + 6) a1.toNatClampNeg a3) (q + 7) a1.toNatClampNeg a2) (q + 8) a1.toNatClampNeg (D_X6_sectionOf (up (up s (q + 6) a1.toNatClampNeg a3) (q + 7) a1.toNatClampNeg a2) a2 a1)) a2 a1)) (q + 10) a1.toNatClampNeg (D_X6_size (up (up (up (up s (q + 6) a1.toNatClampNeg a3) (q + 7) a1.toNatClampNeg a2) (q + 8) a1.toNatClampNeg (D_X6_sectionOf (up (up s (q + 6) a1.toNatClampNeg a3) (q + 7) a1.toNatClampNeg a2) a2 a1)) (q + 9) a1.toNatClampNeg (D_X6_placeOf (up (up (up s (q + 6) a1.toNatClampNeg a3) (q + 7) a1.toNatClampNeg a2) (q + 8) a1.toNatClampNeg (D_X6_sectionOf (up (up s (q + 6) a1.toNatClampNeg a3) (q + 7) a1.toNatClampNeg a2) a2 a1)) a2 a1)) a2 a1)) a2 a1)) (q + 5) 8 ((s (q + 5) 8) &&& ((1 <<< (a1 &&& 31)) ^^^ (-1)))) from ((if_neg c0).trans ((if_neg c1).trans ((if_pos c3).trans rfl))))]
        exact rx_rv rfl
      · refine rx_ifF rfl (bf c3) rfl ?_
        refine rx_k 2 (105, [(0, .ref (b + (q + 5))), (1, .int a1), (2, .int a2), (3, .int a3)], [.ref (b + (q + 5)), .ref (b + (q + 5))]) (fun _ _ => rfl) ?_
        refine rx_getf (v := .int (s (q + 5) 8)) rfl rfl (wl_5 hP hq) (congrArg (fun z => some (Value.int z)) ((((((rd_nk (by omega)).trans (rd_nk (by omega))).trans (rd_nk (by omega))).trans (rd_nk (by omega))).trans (rd_nk (by omega))).trans (rd_nk (by omega)))) ?_
        refine rx_k 4 (112, [(0, .ref (b + (q + 5))), (1, .int a1), (2, .int a2), (3, .int a3)], [.int ((s (q + 5) 8) ||| (1 <<< (a1 &&& 31))), .ref (b + (q + 5))]) (fun _ _ => rfl) ?_
        refine rx_putf rfl rfl (wl_5 hP hq) rfl (wz_5_8 hP hq) ?_
        refine rx_k 1 (132, [(0, .ref (b + (q + 5))), (1, .int a1), (2, .int a2), (3, .int a3)], []) (fun _ _ => rfl) ?_
        rw [(show (D_X9_adopt q s a1 a2 a3) = (up (up (up (up (up (up (up s (q + 6) a1.toNatClampNeg a3) (q + 7) a1.toNatClampNeg a2) (q + 8) a1.toNatClampNeg (D_X6_sectionOf (up (up s (q + 6) a1.toNatClampNeg a3) (q + 7) a1.toNatClampNeg a2) a2 a1)) (q + 9) a1.toNatClampNeg (D_X6_placeOf (up (up (up s (q + 6) a1.toNatClampNeg a3) (q + 7) a1.toNatClampNeg a2) (q + 8) a1.toNatClampNeg (D_X6_sectionOf (up (up s (q + 6) a1.toNatClampNeg a3) (q + 7) a1.toNatClampNeg a2) a2 a1)) a2 a1)) (q + 10) a1.toNatClampNeg (D_X6_size (up (up (up (up s (q + 6) a1.toNatClampNeg a3) (q + 7) a1.toNatClampNeg a2) (q + 8) a1.toNatClampNeg (D_X6_sectionOf (up (up s (q + 6) a1.toNatClampNeg a3) (q + 7) a1.toNatClampNeg a2) a2 a1)) (q + 9) a1.toNatClampNeg (D_X6_placeOf (up (up (up s (q + 6) a1.toNatClampNeg a3) (q + 7) a1.toNatClampNeg a2) (q + 8) a1.toNatClampNeg (D_X6_sectionOf (up (up s (q + 6) a1.toNatClampNeg a3) (q + 7) a1.toNatClampNeg a2) a2 a1)) a2 a1)) a2 a1)) (q + 11) a1.toNatClampNeg (D_X6_align (up (up (up (up (up s (q + 6) a1.toNatClampNeg a3) (q + 7) a1.toNatClampNeg a2) (q + 8) a1.toNatClampNeg (D_X6_sectionOf (up (up s (q + 6) a1.toNatClampNeg a3) (q + 7) a1.toNatClampNeg a2) a2 a1)) (q + 9) a1.toNatClampNeg (D_X6_placeOf (up (up (up s (q + 6) a1.toNatClampNeg a3) (q + 7) a1.toNatClampNeg a2) (q + 8) a1.toNatClampNeg (D_X6_sectionOf (up (up s (q + 6) a1.toNatClampNeg a3) (q + 7) a1.toNatClampNeg a2) a2 a1)) a2 a1)) (q + 10) a1.toNatClampNeg (D_X6_size (up (up (up (up s (q + 6) a1.toNatClampNeg a3) (q + 7) a1.toNatClampNeg a2) (q + 8) a1.toNatClampNeg (D_X6_sectionOf (up (up s (q + 6) a1.toNatClampNeg a3) (q + 7) a1.toNatClampNeg a2) a2 a1)) (q + 9) a1.toNatClampNeg (D_X6_placeOf (up (up (up s (q + 6) a1.toNatClampNeg a3) (q + 7) a1.toNatClampNeg a2) (q + 8) a1.toNatClampNeg (D_X6_sectionOf (up (up s (q + 6) a1.toNatClampNeg a3) (q + 7) a1.toNatClampNeg a2) a2 a1)) a2 a1)) a2 a1)) a2 a1)) (q + 5) 8 ((s (q + 5) 8) ||| (1 <<< (a1 &&& 31)))) from ((if_neg c0).trans ((if_neg c1).trans ((if_neg c3).trans rfl))))]
        exact rx_rv rfl
theorem rc_X9_adopt (hP : WOK b w H0) {q : Nat} (hq : q = 38 ∨ q = 60) {s : Sg} {a1 : Int32} {a2 : Int32} {a3 : Int32} (hN : NN s) : Rc sc 3 139 [.ref (b + (q + 5)), .int a1, .int a2, .int a3] (wd b w wl H0 s, kn) none (wd b w wl H0 (D_X9_adopt q s a1 a2 a3), kn) := rx_mc (m_X9_adopt hP hq hN) rfl rfl (Nat.ble_eq_true_of_le (Nat.le_refl _)) (Nat.ble_eq_true_of_le (Nat.le_refl _))
theorem nn_X9_adopt {q : Nat} (hq : q = 38 ∨ q = 60) {s : Sg} {a1 : Int32} {a2 : Int32} {a3 : Int32} (hN : NN s) : NN (D_X9_adopt q s a1 a2 a3) := by
  by_cases c0 : (D_X11_isName a1) = 0
  · rw [show (D_X9_adopt q s a1 a2 a3) = s from ((if_pos c0).trans rfl)]
    exact hN
  · by_cases c1 : a3 = 1
    · by_cases c2 : (D_X6_isHidden (up (up (up (up (up (up s (q + 6) a1.toNatClampNeg a3) (q + 7) a1.toNatClampNeg (-1)) (q + 8) a1.toNatClampNeg (D_X6_sectionOf (up (up s (q + 6) a1.toNatClampNeg a3) (q + 7) a1.toNatClampNeg (-1)) a2 a1)) (q + 9) a1.toNatClampNeg (D_X6_placeOf (up (up (up s (q + 6) a1.toNatClampNeg a3) (q + 7) a1.toNatClampNeg (-1)) (q + 8) a1.toNatClampNeg (D_X6_sectionOf (up (up s (q + 6) a1.toNatClampNeg a3) (q + 7) a1.toNatClampNeg (-1)) a2 a1)) a2 a1)) (q + 10) a1.toNatClampNeg (D_X6_size (up (up (up (up s (q + 6) a1.toNatClampNeg a3) (q + 7) a1.toNatClampNeg (-1)) (q + 8) a1.toNatClampNeg (D_X6_sectionOf (up (up s (q + 6) a1.toNatClampNeg a3) (q + 7) a1.toNatClampNeg (-1)) a2 a1)) (q + 9) a1.toNatClampNeg (D_X6_placeOf (up (up (up s (q + 6) a1.toNatClampNeg a3) (q + 7) a1.toNatClampNeg (-1)) (q + 8) a1.toNatClampNeg (D_X6_sectionOf (up (up s (q + 6) a1.toNatClampNeg a3) (q + 7) a1.toNatClampNeg (-1)) a2 a1)) a2 a1)) a2 a1)) (q + 11) a1.toNatClampNeg (D_X6_align (up (up (up (up (up s (q + 6) a1.toNatClampNeg a3) (q + 7) a1.toNatClampNeg (-1)) (q + 8) a1.toNatClampNeg (D_X6_sectionOf (up (up s (q + 6) a1.toNatClampNeg a3) (q + 7) a1.toNatClampNeg (-1)) a2 a1)) (q + 9) a1.toNatClampNeg (D_X6_placeOf (up (up (up s (q + 6) a1.toNatClampNeg a3) (q + 7) a1.toNatClampNeg (-1)) (q + 8) a1.toNatClampNeg (D_X6_sectionOf (up (up s (q + 6) a1.toNatClampNeg a3) (q + 7) a1.toNatClampNeg (-1)) a2 a1)) a2 a1)) (q + 10) a1.toNatClampNeg (D_X6_size (up (up (up (up s (q + 6) a1.toNatClampNeg a3) (q + 7) a1.toNatClampNeg (-1)) (q + 8) a1.toNatClampNeg (D_X6_sectionOf (up (up s (q + 6) a1.toNatClampNeg a3) (q + 7) a1.toNatClampNeg (-1)) a2 a1)) (q + 9) a1.toNatClampNeg (D_X6_placeOf (up (up (up s (q + 6) a1.toNatClampNeg a3) (q + 7) a1.toNatClampNeg (-1)) (q + 8) a1.toNatClampNeg (D_X6_sectionOf (up (up s (q + 6) a1.toNatClampNeg a3) (q + 7) a1.toNatClampNeg (-1)) a2 a1)) a2 a1)) a2 a1)) a2 a1)) a2 a1) = 0
      · rw [show (D_X9_adopt q s a1 a2 a3) = (up (up (up (up (up (up (up s (q + 6) a1.toNatClampNeg a3) (q + 7) a1.toNatClampNeg (-1)) (q + 8) a1.toNatClampNeg (D_X6_sectionOf (up (up s (q + 6) a1.toNatClampNeg a3) (q + 7) a1.toNatClampNeg (-1)) a2 a1)) (q + 9) a1.toNatClampNeg (D_X6_placeOf (up (up (up s (q + 6) a1.toNatClampNeg a3) (q + 7) a1.toNatClampNeg (-1)) (q + 8) a1.toNatClampNeg (D_X6_sectionOf (up (up s (q + 6) a1.toNatClampNeg a3) (q + 7) a1.toNatClampNeg (-1)) a2 a1)) a2 a1)) (q + 10) a1.toNatClampNeg (D_X6_size (up (up (up (up s (q + 6) a1.toNatClampNeg a3) (q + 7) a1.toNatClampNeg (-1)) (q + 8) a1.toNatClampNeg (D_X6_sectionOf (up (up s (q + 6) a1.toNatClampNeg a3) (q + 7) a1.toNatClampNeg (-1)) a2 a1)) (q + 9) a1.toNatClampNeg (D_X6_placeOf (up (up (up s (q + 6) a1.toNatClampNeg a3) (q + 7) a1.toNatClampNeg (-1)) (q + 8) a1.toNatClampNeg (D_X6_sectionOf (up (up s (q + 6) a1.toNatClampNeg a3) (q + 7) a1.toNatClampNeg (-1)) a2 a1)) a2 a1)) a2 a1)) (q + 11) a1.toNatClampNeg (D_X6_align (up (up (up (up (up s (q + 6) a1.toNatClampNeg a3) (q + 7) a1.toNatClampNeg (-1)) (q + 8) a1.toNatClampNeg (D_X6_sectionOf (up (up s (q + 6) a1.toNatClampNeg a3) (q + 7) a1.toNatClampNeg (-1)) a2 a1)) (q + 9) a1.toNatClampNeg (D_X6_placeOf (up (up (up s (q + 6) a1.toNatClampNeg a3) (q + 7) a1.toNatClampNeg (-1)) (q + 8) a1.toNatClampNeg (D_X6_sectionOf (up (up s (q + 6) a1.toNatClampNeg a3) (q + 7) a1.toNatClampNeg (-1)) a2 a1)) a2 a1)) (q + 10) a1.toNatClampNeg (D_X6_size (up (up (up (up s (q + 6) a1.toNatClampNeg a3) (q + 7) a1.toNatClampNeg (-1)) (q + 8) a1.toNatClampNeg (D_X6_sectionOf (up (up s (q + 6) a1.toNatClampNeg a3) (q + 7) a1.toNatClampNeg (-1)) a2 a1)) (q + 9) a1.toNatClampNeg (D_X6_placeOf (up (up (up s (q + 6) a1.toNatClampNeg a3) (q + 7) a1.toNatClampNeg (-1)) (q + 8) a1.toNatClampNeg (D_X6_sectionOf (up (up s (q + 6) a1.toNatClampNeg a3) (q + 7) a1.toNatClampNeg (-1)) a2 a1)) a2 a1)) a2 a1)) a2 a1)) (q + 5) 8 ((s (q + 5) 8) &&& ((1 <<< (a1 &&& 31)) ^^^ (-1)))) from ((if_neg c0).trans ((if_pos c1).trans ((if_pos c2).trans rfl)))]
        exact (nn_0 (by rcases hq with rfl | rfl <;> rfl) (nn_0 (by rcases hq with rfl | rfl <;> rfl) (nn_0 (by rcases hq with rfl | rfl <;> rfl) (nn_0 (by rcases hq with rfl | rfl <;> rfl) (nn_0 (by rcases hq with rfl | rfl <;> rfl) (nn_0 (by rcases hq with rfl | rfl <;> rfl) (nn_0 (by rcases hq with rfl | rfl <;> rfl) hN)))))))
      · rw [show (D_X9_adopt q s a1 a2 a3) = (up (up (up (up (up (up (up s (q + 6) a1.toNatClampNeg a3) (q + 7) a1.toNatClampNeg (-1)) (q + 8) a1.toNatClampNeg (D_X6_sectionOf (up (up s (q + 6) a1.toNatClampNeg a3) (q + 7) a1.toNatClampNeg (-1)) a2 a1)) (q + 9) a1.toNatClampNeg (D_X6_placeOf (up (up (up s (q + 6) a1.toNatClampNeg a3) (q + 7) a1.toNatClampNeg (-1)) (q + 8) a1.toNatClampNeg (D_X6_sectionOf (up (up s (q + 6) a1.toNatClampNeg a3) (q + 7) a1.toNatClampNeg (-1)) a2 a1)) a2 a1)) (q + 10) a1.toNatClampNeg (D_X6_size (up (up (up (up s (q + 6) a1.toNatClampNeg a3) (q + 7) a1.toNatClampNeg (-1)) (q + 8) a1.toNatClampNeg (D_X6_sectionOf (up (up s (q + 6) a1.toNatClampNeg a3) (q + 7) a1.toNatClampNeg (-1)) a2 a1)) (q + 9) a1.toNatClampNeg (D_X6_placeOf (up (up (up s (q + 6) a1.toNatClampNeg a3) (q + 7) a1.toNatClampNeg (-1)) (q + 8) a1.toNatClampNeg (D_X6_sectionOf (up (up s (q + 6) a1.toNatClampNeg a3) (q + 7) a1.toNatClampNeg (-1)) a2 a1)) a2 a1)) a2 a1)) (q + 11) a1.toNatClampNeg (D_X6_align (up (up (up (up (up s (q + 6) a1.toNatClampNeg a3) (q + 7) a1.toNatClampNeg (-1)) (q + 8) a1.toNatClampNeg (D_X6_sectionOf (up (up s (q + 6) a1.toNatClampNeg a3) (q + 7) a1.toNatClampNeg (-1)) a2 a1)) (q + 9) a1.toNatClampNeg (D_X6_placeOf (up (up (up s (q + 6) a1.toNatClampNeg a3) (q + 7) a1.toNatClampNeg (-1)) (q + 8) a1.toNatClampNeg (D_X6_sectionOf (up (up s (q + 6) a1.toNatClampNeg a3) (q + 7) a1.toNatClampNeg (-1)) a2 a1)) a2 a1)) (q + 10) a1.toNatClampNeg (D_X6_size (up (up (up (up s (q + 6) a1.toNatClampNeg a3) (q + 7) a1.toNatClampNeg (-1)) (q + 8) a1.toNatClampNeg (D_X6_sectionOf (up (up s (q + 6) a1.toNatClampNeg a3) (q + 7) a1.toNatClampNeg (-1)) a2 a1)) (q + 9) a1.toNatClampNeg (D_X6_placeOf (up (up (up s (q + 6) a1.toNatClampNeg a3) (q + 7) a1.toNatClampNeg (-1)) (q + 8) a1.toNatClampNeg (D_X6_sectionOf (up (up s (q + 6) a1.toNatClampNeg a3) (q + 7) a1.toNatClampNeg (-1)) a2 a1)) a2 a1)) a2 a1)) a2 a1)) (q + 5) 8 ((s (q + 5) 8) ||| (1 <<< (a1 &&& 31)))) from ((if_neg c0).trans ((if_pos c1).trans ((if_neg c2).trans rfl)))]
        exact (nn_0 (by rcases hq with rfl | rfl <;> rfl) (nn_0 (by rcases hq with rfl | rfl <;> rfl) (nn_0 (by rcases hq with rfl | rfl <;> rfl) (nn_0 (by rcases hq with rfl | rfl <;> rfl) (nn_0 (by rcases hq with rfl | rfl <;> rfl) (nn_0 (by rcases hq with rfl | rfl <;> rfl) (nn_0 (by rcases hq with rfl | rfl <;> rfl) hN)))))))
    · by_cases c3 : (D_X6_isHidden (up (up (up (up (up (up s (q + 6) a1.toNatClampNeg a3) (q + 7) a1.toNatClampNeg a2) (q + 8) a1.toNatClampNeg (D_X6_sectionOf (up (up s (q + 6) a1.toNatClampNeg a3) (q + 7) a1.toNatClampNeg a2) a2 a1)) (q + 9) a1.toNatClampNeg (D_X6_placeOf (up (up (up s (q + 6) a1.toNatClampNeg a3) (q + 7) a1.toNatClampNeg a2) (q + 8) a1.toNatClampNeg (D_X6_sectionOf (up (up s (q + 6) a1.toNatClampNeg a3) (q + 7) a1.toNatClampNeg a2) a2 a1)) a2 a1)) (q + 10) a1.toNatClampNeg (D_X6_size (up (up (up (up s (q + 6) a1.toNatClampNeg a3) (q + 7) a1.toNatClampNeg a2) (q + 8) a1.toNatClampNeg (D_X6_sectionOf (up (up s (q + 6) a1.toNatClampNeg a3) (q + 7) a1.toNatClampNeg a2) a2 a1)) (q + 9) a1.toNatClampNeg (D_X6_placeOf (up (up (up s (q + 6) a1.toNatClampNeg a3) (q + 7) a1.toNatClampNeg a2) (q + 8) a1.toNatClampNeg (D_X6_sectionOf (up (up s (q + 6) a1.toNatClampNeg a3) (q + 7) a1.toNatClampNeg a2) a2 a1)) a2 a1)) a2 a1)) (q + 11) a1.toNatClampNeg (D_X6_align (up (up (up (up (up s (q + 6) a1.toNatClampNeg a3) (q + 7) a1.toNatClampNeg a2) (q + 8) a1.toNatClampNeg (D_X6_sectionOf (up (up s (q + 6) a1.toNatClampNeg a3) (q + 7) a1.toNatClampNeg a2) a2 a1)) (q + 9) a1.toNatClampNeg (D_X6_placeOf (up (up (up s (q + 6) a1.toNatClampNeg a3) (q + 7) a1.toNatClampNeg a2) (q + 8) a1.toNatClampNeg (D_X6_sectionOf (up (up s (q + 6) a1.toNatClampNeg a3) (q + 7) a1.toNatClampNeg a2) a2 a1)) a2 a1)) (q + 10) a1.toNatClampNeg (D_X6_size (up (up (up (up s (q + 6) a1.toNatClampNeg a3) (q + 7) a1.toNatClampNeg a2) (q + 8) a1.toNatClampNeg (D_X6_sectionOf (up (up s (q + 6) a1.toNatClampNeg a3) (q + 7) a1.toNatClampNeg a2) a2 a1)) (q + 9) a1.toNatClampNeg (D_X6_placeOf (up (up (up s (q + 6) a1.toNatClampNeg a3) (q + 7) a1.toNatClampNeg a2) (q + 8) a1.toNatClampNeg (D_X6_sectionOf (up (up s (q + 6) a1.toNatClampNeg a3) (q + 7) a1.toNatClampNeg a2) a2 a1)) a2 a1)) a2 a1)) a2 a1)) a2 a1) = 0
      · rw [show (D_X9_adopt q s a1 a2 a3) = (up (up (up (up (up (up (up s (q + 6) a1.toNatClampNeg a3) (q + 7) a1.toNatClampNeg a2) (q + 8) a1.toNatClampNeg (D_X6_sectionOf (up (up s (q + 6) a1.toNatClampNeg a3) (q + 7) a1.toNatClampNeg a2) a2 a1)) (q + 9) a1.toNatClampNeg (D_X6_placeOf (up (up (up s (q + 6) a1.toNatClampNeg a3) (q + 7) a1.toNatClampNeg a2) (q + 8) a1.toNatClampNeg (D_X6_sectionOf (up (up s (q + 6) a1.toNatClampNeg a3) (q + 7) a1.toNatClampNeg a2) a2 a1)) a2 a1)) (q + 10) a1.toNatClampNeg (D_X6_size (up (up (up (up s (q + 6) a1.toNatClampNeg a3) (q + 7) a1.toNatClampNeg a2) (q + 8) a1.toNatClampNeg (D_X6_sectionOf (up (up s (q + 6) a1.toNatClampNeg a3) (q + 7) a1.toNatClampNeg a2) a2 a1)) (q + 9) a1.toNatClampNeg (D_X6_placeOf (up (up (up s (q + 6) a1.toNatClampNeg a3) (q + 7) a1.toNatClampNeg a2) (q + 8) a1.toNatClampNeg (D_X6_sectionOf (up (up s (q + 6) a1.toNatClampNeg a3) (q + 7) a1.toNatClampNeg a2) a2 a1)) a2 a1)) a2 a1)) (q + 11) a1.toNatClampNeg (D_X6_align (up (up (up (up (up s (q + 6) a1.toNatClampNeg a3) (q + 7) a1.toNatClampNeg a2) (q + 8) a1.toNatClampNeg (D_X6_sectionOf (up (up s (q + 6) a1.toNatClampNeg a3) (q + 7) a1.toNatClampNeg a2) a2 a1)) (q + 9) a1.toNatClampNeg (D_X6_placeOf (up (up (up s (q + 6) a1.toNatClampNeg a3) (q + 7) a1.toNatClampNeg a2) (q + 8) a1.toNatClampNeg (D_X6_sectionOf (up (up s (q + 6) a1.toNatClampNeg a3) (q + 7) a1.toNatClampNeg a2) a2 a1)) a2 a1)) (q + 10) a1.toNatClampNeg (D_X6_size (up (up (up (up s (q + 6) a1.toNatClampNeg a3) (q + 7) a1.toNatClampNeg a2) (q + 8) a1.toNatClampNeg (D_X6_sectionOf (up (up s (q + 6) a1.toNatClampNeg a3) (q + 7) a1.toNatClampNeg a2) a2 a1)) (q + 9) a1.toNatClampNeg (D_X6_placeOf (up (up (up s (q + 6) a1.toNatClampNeg a3) (q + 7) a1.toNatClampNeg a2) (q + 8) a1.toNatClampNeg (D_X6_sectionOf (up (up s (q + 6) a1.toNatClampNeg a3) (q + 7) a1.toNatClampNeg a2) a2 a1)) a2 a1)) a2 a1)) a2 a1)) (q + 5) 8 ((s (q + 5) 8) &&& ((1 <<< (a1 &&& 31)) ^^^ (-1)))) from ((if_neg c0).trans ((if_neg c1).trans ((if_pos c3).trans rfl)))]
        exact (nn_0 (by rcases hq with rfl | rfl <;> rfl) (nn_0 (by rcases hq with rfl | rfl <;> rfl) (nn_0 (by rcases hq with rfl | rfl <;> rfl) (nn_0 (by rcases hq with rfl | rfl <;> rfl) (nn_0 (by rcases hq with rfl | rfl <;> rfl) (nn_0 (by rcases hq with rfl | rfl <;> rfl) (nn_0 (by rcases hq with rfl | rfl <;> rfl) hN)))))))
      · rw [show (D_X9_adopt q s a1 a2 a3) = (up (up (up (up (up (up (up s (q + 6) a1.toNatClampNeg a3) (q + 7) a1.toNatClampNeg a2) (q + 8) a1.toNatClampNeg (D_X6_sectionOf (up (up s (q + 6) a1.toNatClampNeg a3) (q + 7) a1.toNatClampNeg a2) a2 a1)) (q + 9) a1.toNatClampNeg (D_X6_placeOf (up (up (up s (q + 6) a1.toNatClampNeg a3) (q + 7) a1.toNatClampNeg a2) (q + 8) a1.toNatClampNeg (D_X6_sectionOf (up (up s (q + 6) a1.toNatClampNeg a3) (q + 7) a1.toNatClampNeg a2) a2 a1)) a2 a1)) (q + 10) a1.toNatClampNeg (D_X6_size (up (up (up (up s (q + 6) a1.toNatClampNeg a3) (q + 7) a1.toNatClampNeg a2) (q + 8) a1.toNatClampNeg (D_X6_sectionOf (up (up s (q + 6) a1.toNatClampNeg a3) (q + 7) a1.toNatClampNeg a2) a2 a1)) (q + 9) a1.toNatClampNeg (D_X6_placeOf (up (up (up s (q + 6) a1.toNatClampNeg a3) (q + 7) a1.toNatClampNeg a2) (q + 8) a1.toNatClampNeg (D_X6_sectionOf (up (up s (q + 6) a1.toNatClampNeg a3) (q + 7) a1.toNatClampNeg a2) a2 a1)) a2 a1)) a2 a1)) (q + 11) a1.toNatClampNeg (D_X6_align (up (up (up (up (up s (q + 6) a1.toNatClampNeg a3) (q + 7) a1.toNatClampNeg a2) (q + 8) a1.toNatClampNeg (D_X6_sectionOf (up (up s (q + 6) a1.toNatClampNeg a3) (q + 7) a1.toNatClampNeg a2) a2 a1)) (q + 9) a1.toNatClampNeg (D_X6_placeOf (up (up (up s (q + 6) a1.toNatClampNeg a3) (q + 7) a1.toNatClampNeg a2) (q + 8) a1.toNatClampNeg (D_X6_sectionOf (up (up s (q + 6) a1.toNatClampNeg a3) (q + 7) a1.toNatClampNeg a2) a2 a1)) a2 a1)) (q + 10) a1.toNatClampNeg (D_X6_size (up (up (up (up s (q + 6) a1.toNatClampNeg a3) (q + 7) a1.toNatClampNeg a2) (q + 8) a1.toNatClampNeg (D_X6_sectionOf (up (up s (q + 6) a1.toNatClampNeg a3) (q + 7) a1.toNatClampNeg a2) a2 a1)) (q + 9) a1.toNatClampNeg (D_X6_placeOf (up (up (up s (q + 6) a1.toNatClampNeg a3) (q + 7) a1.toNatClampNeg a2) (q + 8) a1.toNatClampNeg (D_X6_sectionOf (up (up s (q + 6) a1.toNatClampNeg a3) (q + 7) a1.toNatClampNeg a2) a2 a1)) a2 a1)) a2 a1)) a2 a1)) (q + 5) 8 ((s (q + 5) 8) ||| (1 <<< (a1 &&& 31)))) from ((if_neg c0).trans ((if_neg c1).trans ((if_neg c3).trans rfl)))]
        exact (nn_0 (by rcases hq with rfl | rfl <;> rfl) (nn_0 (by rcases hq with rfl | rfl <;> rfl) (nn_0 (by rcases hq with rfl | rfl <;> rfl) (nn_0 (by rcases hq with rfl | rfl <;> rfl) (nn_0 (by rcases hq with rfl | rfl <;> rfl) (nn_0 (by rcases hq with rfl | rfl <;> rfl) (nn_0 (by rcases hq with rfl | rfl <;> rfl) hN)))))))
theorem fw_X9_adopt {q : Nat} {s : Sg} {a1 : Int32} {a2 : Int32} {a3 : Int32} {k j : Nat} (l5f8 : k ≠ q + 5 ∨ j ≠ 8) (l6 : k ≠ q + 6) (l7 : k ≠ q + 7) (l8 : k ≠ q + 8) (l9 : k ≠ q + 9) (l10 : k ≠ q + 10) (l11 : k ≠ q + 11) : (D_X9_adopt q s a1 a2 a3) k j = s k j := by
  by_cases c0 : (D_X11_isName a1) = 0
  · rw [show (D_X9_adopt q s a1 a2 a3) = s from ((if_pos c0).trans rfl)]
    first | done | exact rfl
  · by_cases c1 : a3 = 1
    · by_cases c2 : (D_X6_isHidden (up (up (up (up (up (up s (q + 6) a1.toNatClampNeg a3) (q + 7) a1.toNatClampNeg (-1)) (q + 8) a1.toNatClampNeg (D_X6_sectionOf (up (up s (q + 6) a1.toNatClampNeg a3) (q + 7) a1.toNatClampNeg (-1)) a2 a1)) (q + 9) a1.toNatClampNeg (D_X6_placeOf (up (up (up s (q + 6) a1.toNatClampNeg a3) (q + 7) a1.toNatClampNeg (-1)) (q + 8) a1.toNatClampNeg (D_X6_sectionOf (up (up s (q + 6) a1.toNatClampNeg a3) (q + 7) a1.toNatClampNeg (-1)) a2 a1)) a2 a1)) (q + 10) a1.toNatClampNeg (D_X6_size (up (up (up (up s (q + 6) a1.toNatClampNeg a3) (q + 7) a1.toNatClampNeg (-1)) (q + 8) a1.toNatClampNeg (D_X6_sectionOf (up (up s (q + 6) a1.toNatClampNeg a3) (q + 7) a1.toNatClampNeg (-1)) a2 a1)) (q + 9) a1.toNatClampNeg (D_X6_placeOf (up (up (up s (q + 6) a1.toNatClampNeg a3) (q + 7) a1.toNatClampNeg (-1)) (q + 8) a1.toNatClampNeg (D_X6_sectionOf (up (up s (q + 6) a1.toNatClampNeg a3) (q + 7) a1.toNatClampNeg (-1)) a2 a1)) a2 a1)) a2 a1)) (q + 11) a1.toNatClampNeg (D_X6_align (up (up (up (up (up s (q + 6) a1.toNatClampNeg a3) (q + 7) a1.toNatClampNeg (-1)) (q + 8) a1.toNatClampNeg (D_X6_sectionOf (up (up s (q + 6) a1.toNatClampNeg a3) (q + 7) a1.toNatClampNeg (-1)) a2 a1)) (q + 9) a1.toNatClampNeg (D_X6_placeOf (up (up (up s (q + 6) a1.toNatClampNeg a3) (q + 7) a1.toNatClampNeg (-1)) (q + 8) a1.toNatClampNeg (D_X6_sectionOf (up (up s (q + 6) a1.toNatClampNeg a3) (q + 7) a1.toNatClampNeg (-1)) a2 a1)) a2 a1)) (q + 10) a1.toNatClampNeg (D_X6_size (up (up (up (up s (q + 6) a1.toNatClampNeg a3) (q + 7) a1.toNatClampNeg (-1)) (q + 8) a1.toNatClampNeg (D_X6_sectionOf (up (up s (q + 6) a1.toNatClampNeg a3) (q + 7) a1.toNatClampNeg (-1)) a2 a1)) (q + 9) a1.toNatClampNeg (D_X6_placeOf (up (up (up s (q + 6) a1.toNatClampNeg a3) (q + 7) a1.toNatClampNeg (-1)) (q + 8) a1.toNatClampNeg (D_X6_sectionOf (up (up s (q + 6) a1.toNatClampNeg a3) (q + 7) a1.toNatClampNeg (-1)) a2 a1)) a2 a1)) a2 a1)) a2 a1)) a2 a1) = 0
      · rw [show (D_X9_adopt q s a1 a2 a3) = (up (up (up (up (up (up (up s (q + 6) a1.toNatClampNeg a3) (q + 7) a1.toNatClampNeg (-1)) (q + 8) a1.toNatClampNeg (D_X6_sectionOf (up (up s (q + 6) a1.toNatClampNeg a3) (q + 7) a1.toNatClampNeg (-1)) a2 a1)) (q + 9) a1.toNatClampNeg (D_X6_placeOf (up (up (up s (q + 6) a1.toNatClampNeg a3) (q + 7) a1.toNatClampNeg (-1)) (q + 8) a1.toNatClampNeg (D_X6_sectionOf (up (up s (q + 6) a1.toNatClampNeg a3) (q + 7) a1.toNatClampNeg (-1)) a2 a1)) a2 a1)) (q + 10) a1.toNatClampNeg (D_X6_size (up (up (up (up s (q + 6) a1.toNatClampNeg a3) (q + 7) a1.toNatClampNeg (-1)) (q + 8) a1.toNatClampNeg (D_X6_sectionOf (up (up s (q + 6) a1.toNatClampNeg a3) (q + 7) a1.toNatClampNeg (-1)) a2 a1)) (q + 9) a1.toNatClampNeg (D_X6_placeOf (up (up (up s (q + 6) a1.toNatClampNeg a3) (q + 7) a1.toNatClampNeg (-1)) (q + 8) a1.toNatClampNeg (D_X6_sectionOf (up (up s (q + 6) a1.toNatClampNeg a3) (q + 7) a1.toNatClampNeg (-1)) a2 a1)) a2 a1)) a2 a1)) (q + 11) a1.toNatClampNeg (D_X6_align (up (up (up (up (up s (q + 6) a1.toNatClampNeg a3) (q + 7) a1.toNatClampNeg (-1)) (q + 8) a1.toNatClampNeg (D_X6_sectionOf (up (up s (q + 6) a1.toNatClampNeg a3) (q + 7) a1.toNatClampNeg (-1)) a2 a1)) (q + 9) a1.toNatClampNeg (D_X6_placeOf (up (up (up s (q + 6) a1.toNatClampNeg a3) (q + 7) a1.toNatClampNeg (-1)) (q + 8) a1.toNatClampNeg (D_X6_sectionOf (up (up s (q + 6) a1.toNatClampNeg a3) (q + 7) a1.toNatClampNeg (-1)) a2 a1)) a2 a1)) (q + 10) a1.toNatClampNeg (D_X6_size (up (up (up (up s (q + 6) a1.toNatClampNeg a3) (q + 7) a1.toNatClampNeg (-1)) (q + 8) a1.toNatClampNeg (D_X6_sectionOf (up (up s (q + 6) a1.toNatClampNeg a3) (q + 7) a1.toNatClampNeg (-1)) a2 a1)) (q + 9) a1.toNatClampNeg (D_X6_placeOf (up (up (up s (q + 6) a1.toNatClampNeg a3) (q + 7) a1.toNatClampNeg (-1)) (q + 8) a1.toNatClampNeg (D_X6_sectionOf (up (up s (q + 6) a1.toNatClampNeg a3) (q + 7) a1.toNatClampNeg (-1)) a2 a1)) a2 a1)) a2 a1)) a2 a1)) (q + 5) 8 ((s (q + 5) 8) &&& ((1 <<< (a1 &&& 31)) ^^^ (-1)))) from ((if_neg c0).trans ((if_pos c1).trans ((if_pos c2).trans rfl)))]
        first | done | exact ((up_f l5f8).trans ((up_a l11).trans ((up_a l10).trans ((up_a l9).trans ((up_a l8).trans ((up_a l7).trans ((up_a l6).trans rfl)))))))
      · rw [show (D_X9_adopt q s a1 a2 a3) = (up (up (up (up (up (up (up s (q + 6) a1.toNatClampNeg a3) (q + 7) a1.toNatClampNeg (-1)) (q + 8) a1.toNatClampNeg (D_X6_sectionOf (up (up s (q + 6) a1.toNatClampNeg a3) (q + 7) a1.toNatClampNeg (-1)) a2 a1)) (q + 9) a1.toNatClampNeg (D_X6_placeOf (up (up (up s (q + 6) a1.toNatClampNeg a3) (q + 7) a1.toNatClampNeg (-1)) (q + 8) a1.toNatClampNeg (D_X6_sectionOf (up (up s (q + 6) a1.toNatClampNeg a3) (q + 7) a1.toNatClampNeg (-1)) a2 a1)) a2 a1)) (q + 10) a1.toNatClampNeg (D_X6_size (up (up (up (up s (q + 6) a1.toNatClampNeg a3) (q + 7) a1.toNatClampNeg (-1)) (q + 8) a1.toNatClampNeg (D_X6_sectionOf (up (up s (q + 6) a1.toNatClampNeg a3) (q + 7) a1.toNatClampNeg (-1)) a2 a1)) (q + 9) a1.toNatClampNeg (D_X6_placeOf (up (up (up s (q + 6) a1.toNatClampNeg a3) (q + 7) a1.toNatClampNeg (-1)) (q + 8) a1.toNatClampNeg (D_X6_sectionOf (up (up s (q + 6) a1.toNatClampNeg a3) (q + 7) a1.toNatClampNeg (-1)) a2 a1)) a2 a1)) a2 a1)) (q + 11) a1.toNatClampNeg (D_X6_align (up (up (up (up (up s (q + 6) a1.toNatClampNeg a3) (q + 7) a1.toNatClampNeg (-1)) (q + 8) a1.toNatClampNeg (D_X6_sectionOf (up (up s (q + 6) a1.toNatClampNeg a3) (q + 7) a1.toNatClampNeg (-1)) a2 a1)) (q + 9) a1.toNatClampNeg (D_X6_placeOf (up (up (up s (q + 6) a1.toNatClampNeg a3) (q + 7) a1.toNatClampNeg (-1)) (q + 8) a1.toNatClampNeg (D_X6_sectionOf (up (up s (q + 6) a1.toNatClampNeg a3) (q + 7) a1.toNatClampNeg (-1)) a2 a1)) a2 a1)) (q + 10) a1.toNatClampNeg (D_X6_size (up (up (up (up s (q + 6) a1.toNatClampNeg a3) (q + 7) a1.toNatClampNeg (-1)) (q + 8) a1.toNatClampNeg (D_X6_sectionOf (up (up s (q + 6) a1.toNatClampNeg a3) (q + 7) a1.toNatClampNeg (-1)) a2 a1)) (q + 9) a1.toNatClampNeg (D_X6_placeOf (up (up (up s (q + 6) a1.toNatClampNeg a3) (q + 7) a1.toNatClampNeg (-1)) (q + 8) a1.toNatClampNeg (D_X6_sectionOf (up (up s (q + 6) a1.toNatClampNeg a3) (q + 7) a1.toNatClampNeg (-1)) a2 a1)) a2 a1)) a2 a1)) a2 a1)) (q + 5) 8 ((s (q + 5) 8) ||| (1 <<< (a1 &&& 31)))) from ((if_neg c0).trans ((if_pos c1).trans ((if_neg c2).trans rfl)))]
        first | done | exact ((up_f l5f8).trans ((up_a l11).trans ((up_a l10).trans ((up_a l9).trans ((up_a l8).trans ((up_a l7).trans ((up_a l6).trans rfl)))))))
    · by_cases c3 : (D_X6_isHidden (up (up (up (up (up (up s (q + 6) a1.toNatClampNeg a3) (q + 7) a1.toNatClampNeg a2) (q + 8) a1.toNatClampNeg (D_X6_sectionOf (up (up s (q + 6) a1.toNatClampNeg a3) (q + 7) a1.toNatClampNeg a2) a2 a1)) (q + 9) a1.toNatClampNeg (D_X6_placeOf (up (up (up s (q + 6) a1.toNatClampNeg a3) (q + 7) a1.toNatClampNeg a2) (q + 8) a1.toNatClampNeg (D_X6_sectionOf (up (up s (q + 6) a1.toNatClampNeg a3) (q + 7) a1.toNatClampNeg a2) a2 a1)) a2 a1)) (q + 10) a1.toNatClampNeg (D_X6_size (up (up (up (up s (q + 6) a1.toNatClampNeg a3) (q + 7) a1.toNatClampNeg a2) (q + 8) a1.toNatClampNeg (D_X6_sectionOf (up (up s (q + 6) a1.toNatClampNeg a3) (q + 7) a1.toNatClampNeg a2) a2 a1)) (q + 9) a1.toNatClampNeg (D_X6_placeOf (up (up (up s (q + 6) a1.toNatClampNeg a3) (q + 7) a1.toNatClampNeg a2) (q + 8) a1.toNatClampNeg (D_X6_sectionOf (up (up s (q + 6) a1.toNatClampNeg a3) (q + 7) a1.toNatClampNeg a2) a2 a1)) a2 a1)) a2 a1)) (q + 11) a1.toNatClampNeg (D_X6_align (up (up (up (up (up s (q + 6) a1.toNatClampNeg a3) (q + 7) a1.toNatClampNeg a2) (q + 8) a1.toNatClampNeg (D_X6_sectionOf (up (up s (q + 6) a1.toNatClampNeg a3) (q + 7) a1.toNatClampNeg a2) a2 a1)) (q + 9) a1.toNatClampNeg (D_X6_placeOf (up (up (up s (q + 6) a1.toNatClampNeg a3) (q + 7) a1.toNatClampNeg a2) (q + 8) a1.toNatClampNeg (D_X6_sectionOf (up (up s (q + 6) a1.toNatClampNeg a3) (q + 7) a1.toNatClampNeg a2) a2 a1)) a2 a1)) (q + 10) a1.toNatClampNeg (D_X6_size (up (up (up (up s (q + 6) a1.toNatClampNeg a3) (q + 7) a1.toNatClampNeg a2) (q + 8) a1.toNatClampNeg (D_X6_sectionOf (up (up s (q + 6) a1.toNatClampNeg a3) (q + 7) a1.toNatClampNeg a2) a2 a1)) (q + 9) a1.toNatClampNeg (D_X6_placeOf (up (up (up s (q + 6) a1.toNatClampNeg a3) (q + 7) a1.toNatClampNeg a2) (q + 8) a1.toNatClampNeg (D_X6_sectionOf (up (up s (q + 6) a1.toNatClampNeg a3) (q + 7) a1.toNatClampNeg a2) a2 a1)) a2 a1)) a2 a1)) a2 a1)) a2 a1) = 0
      · rw [show (D_X9_adopt q s a1 a2 a3) = (up (up (up (up (up (up (up s (q + 6) a1.toNatClampNeg a3) (q + 7) a1.toNatClampNeg a2) (q + 8) a1.toNatClampNeg (D_X6_sectionOf (up (up s (q + 6) a1.toNatClampNeg a3) (q + 7) a1.toNatClampNeg a2) a2 a1)) (q + 9) a1.toNatClampNeg (D_X6_placeOf (up (up (up s (q + 6) a1.toNatClampNeg a3) (q + 7) a1.toNatClampNeg a2) (q + 8) a1.toNatClampNeg (D_X6_sectionOf (up (up s (q + 6) a1.toNatClampNeg a3) (q + 7) a1.toNatClampNeg a2) a2 a1)) a2 a1)) (q + 10) a1.toNatClampNeg (D_X6_size (up (up (up (up s (q + 6) a1.toNatClampNeg a3) (q + 7) a1.toNatClampNeg a2) (q + 8) a1.toNatClampNeg (D_X6_sectionOf (up (up s (q + 6) a1.toNatClampNeg a3) (q + 7) a1.toNatClampNeg a2) a2 a1)) (q + 9) a1.toNatClampNeg (D_X6_placeOf (up (up (up s (q + 6) a1.toNatClampNeg a3) (q + 7) a1.toNatClampNeg a2) (q + 8) a1.toNatClampNeg (D_X6_sectionOf (up (up s (q + 6) a1.toNatClampNeg a3) (q + 7) a1.toNatClampNeg a2) a2 a1)) a2 a1)) a2 a1)) (q + 11) a1.toNatClampNeg (D_X6_align (up (up (up (up (up s (q + 6) a1.toNatClampNeg a3) (q + 7) a1.toNatClampNeg a2) (q + 8) a1.toNatClampNeg (D_X6_sectionOf (up (up s (q + 6) a1.toNatClampNeg a3) (q + 7) a1.toNatClampNeg a2) a2 a1)) (q + 9) a1.toNatClampNeg (D_X6_placeOf (up (up (up s (q + 6) a1.toNatClampNeg a3) (q + 7) a1.toNatClampNeg a2) (q + 8) a1.toNatClampNeg (D_X6_sectionOf (up (up s (q + 6) a1.toNatClampNeg a3) (q + 7) a1.toNatClampNeg a2) a2 a1)) a2 a1)) (q + 10) a1.toNatClampNeg (D_X6_size (up (up (up (up s (q + 6) a1.toNatClampNeg a3) (q + 7) a1.toNatClampNeg a2) (q + 8) a1.toNatClampNeg (D_X6_sectionOf (up (up s (q + 6) a1.toNatClampNeg a3) (q + 7) a1.toNatClampNeg a2) a2 a1)) (q + 9) a1.toNatClampNeg (D_X6_placeOf (up (up (up s (q + 6) a1.toNatClampNeg a3) (q + 7) a1.toNatClampNeg a2) (q + 8) a1.toNatClampNeg (D_X6_sectionOf (up (up s (q + 6) a1.toNatClampNeg a3) (q + 7) a1.toNatClampNeg a2) a2 a1)) a2 a1)) a2 a1)) a2 a1)) (q + 5) 8 ((s (q + 5) 8) &&& ((1 <<< (a1 &&& 31)) ^^^ (-1)))) from ((if_neg c0).trans ((if_neg c1).trans ((if_pos c3).trans rfl)))]
        first | done | exact ((up_f l5f8).trans ((up_a l11).trans ((up_a l10).trans ((up_a l9).trans ((up_a l8).trans ((up_a l7).trans ((up_a l6).trans rfl)))))))
      · rw [show (D_X9_adopt q s a1 a2 a3) = (up (up (up (up (up (up (up s (q + 6) a1.toNatClampNeg a3) (q + 7) a1.toNatClampNeg a2) (q + 8) a1.toNatClampNeg (D_X6_sectionOf (up (up s (q + 6) a1.toNatClampNeg a3) (q + 7) a1.toNatClampNeg a2) a2 a1)) (q + 9) a1.toNatClampNeg (D_X6_placeOf (up (up (up s (q + 6) a1.toNatClampNeg a3) (q + 7) a1.toNatClampNeg a2) (q + 8) a1.toNatClampNeg (D_X6_sectionOf (up (up s (q + 6) a1.toNatClampNeg a3) (q + 7) a1.toNatClampNeg a2) a2 a1)) a2 a1)) (q + 10) a1.toNatClampNeg (D_X6_size (up (up (up (up s (q + 6) a1.toNatClampNeg a3) (q + 7) a1.toNatClampNeg a2) (q + 8) a1.toNatClampNeg (D_X6_sectionOf (up (up s (q + 6) a1.toNatClampNeg a3) (q + 7) a1.toNatClampNeg a2) a2 a1)) (q + 9) a1.toNatClampNeg (D_X6_placeOf (up (up (up s (q + 6) a1.toNatClampNeg a3) (q + 7) a1.toNatClampNeg a2) (q + 8) a1.toNatClampNeg (D_X6_sectionOf (up (up s (q + 6) a1.toNatClampNeg a3) (q + 7) a1.toNatClampNeg a2) a2 a1)) a2 a1)) a2 a1)) (q + 11) a1.toNatClampNeg (D_X6_align (up (up (up (up (up s (q + 6) a1.toNatClampNeg a3) (q + 7) a1.toNatClampNeg a2) (q + 8) a1.toNatClampNeg (D_X6_sectionOf (up (up s (q + 6) a1.toNatClampNeg a3) (q + 7) a1.toNatClampNeg a2) a2 a1)) (q + 9) a1.toNatClampNeg (D_X6_placeOf (up (up (up s (q + 6) a1.toNatClampNeg a3) (q + 7) a1.toNatClampNeg a2) (q + 8) a1.toNatClampNeg (D_X6_sectionOf (up (up s (q + 6) a1.toNatClampNeg a3) (q + 7) a1.toNatClampNeg a2) a2 a1)) a2 a1)) (q + 10) a1.toNatClampNeg (D_X6_size (up (up (up (up s (q + 6) a1.toNatClampNeg a3) (q + 7) a1.toNatClampNeg a2) (q + 8) a1.toNatClampNeg (D_X6_sectionOf (up (up s (q + 6) a1.toNatClampNeg a3) (q + 7) a1.toNatClampNeg a2) a2 a1)) (q + 9) a1.toNatClampNeg (D_X6_placeOf (up (up (up s (q + 6) a1.toNatClampNeg a3) (q + 7) a1.toNatClampNeg a2) (q + 8) a1.toNatClampNeg (D_X6_sectionOf (up (up s (q + 6) a1.toNatClampNeg a3) (q + 7) a1.toNatClampNeg a2) a2 a1)) a2 a1)) a2 a1)) a2 a1)) (q + 5) 8 ((s (q + 5) 8) ||| (1 <<< (a1 &&& 31)))) from ((if_neg c0).trans ((if_neg c1).trans ((if_neg c3).trans rfl)))]
        first | done | exact ((up_f l5f8).trans ((up_a l11).trans ((up_a l10).trans ((up_a l9).trans ((up_a l8).trans ((up_a l7).trans ((up_a l6).trans rfl)))))))
-- LinkHarbour$Settling.weigh
noncomputable def D_X9_weigh (q : Nat) (s : Sg) (a1 : Int32) (a2 : Int32) : Sg := (if (D_X6_kind s a2 a1) = (-1) then s else (if (D_X11_isName a1) = 0 then s else (if (D_X6_kind s a2 a1) = 0 then (if (s (q + 6) a1.toNatClampNeg) = 0 then (up s (q + 5) 9 ((s (q + 5) 9) ||| (1 <<< (a1 &&& 31)))) else (if (D_X6_kind s a2 a1) = 1 then (if (s (q + 6) a1.toNatClampNeg) = 1 then (up (up s (q + 10) a1.toNatClampNeg (D_J9_max_7cf53 (s (q + 10) a1.toNatClampNeg) (D_X6_size s a2 a1))) (q + 11) a1.toNatClampNeg (D_J9_max_7cf53 (s (q + 11) a1.toNatClampNeg) (D_X6_align (up s (q + 10) a1.toNatClampNeg (D_J9_max_7cf53 (s (q + 10) a1.toNatClampNeg) (D_X6_size s a2 a1))) a2 a1))) else (if (s (q + 6) a1.toNatClampNeg) = (-1) then (D_X9_adopt q s a1 a2 (D_X6_kind s a2 a1)) else (if (s (q + 6) a1.toNatClampNeg) ≤ (D_X6_kind s a2 a1) then s else (D_X9_adopt q s a1 a2 (D_X6_kind s a2 a1))))) else (if (s (q + 6) a1.toNatClampNeg) = (-1) then (D_X9_adopt q s a1 a2 (D_X6_kind s a2 a1)) else (if (s (q + 6) a1.toNatClampNeg) ≤ (D_X6_kind s a2 a1) then s else (D_X9_adopt q s a1 a2 (D_X6_kind s a2 a1)))))) else (if (D_X6_kind s a2 a1) = 1 then (if (s (q + 6) a1.toNatClampNeg) = 1 then (up (up s (q + 10) a1.toNatClampNeg (D_J9_max_7cf53 (s (q + 10) a1.toNatClampNeg) (D_X6_size s a2 a1))) (q + 11) a1.toNatClampNeg (D_J9_max_7cf53 (s (q + 11) a1.toNatClampNeg) (D_X6_align (up s (q + 10) a1.toNatClampNeg (D_J9_max_7cf53 (s (q + 10) a1.toNatClampNeg) (D_X6_size s a2 a1))) a2 a1))) else (if (s (q + 6) a1.toNatClampNeg) = (-1) then (D_X9_adopt q s a1 a2 (D_X6_kind s a2 a1)) else (if (s (q + 6) a1.toNatClampNeg) ≤ (D_X6_kind s a2 a1) then s else (D_X9_adopt q s a1 a2 (D_X6_kind s a2 a1))))) else (if (s (q + 6) a1.toNatClampNeg) = (-1) then (D_X9_adopt q s a1 a2 (D_X6_kind s a2 a1)) else (if (s (q + 6) a1.toNatClampNeg) ≤ (D_X6_kind s a2 a1) then s else (D_X9_adopt q s a1 a2 (D_X6_kind s a2 a1))))))))
theorem m_X9_weigh (hP : WOK b w H0) {q : Nat} (hq : q = 38 ∨ q = 60) {s : Sg} {a1 : Int32} {a2 : Int32} (hN : NN s) : Rx sc g_X9_weigh 3 ((0, [(0, .ref (b + (q + 5))), (1, .int a1), (2, .int a2)], [])) (wd b w wl H0 s, kn) none (wd b w wl H0 (D_X9_weigh q s a1 a2), kn) := by
  show Rx sc g_X9_weigh 3 (0, [(0, .ref (b + (q + 5))), (1, .int a1), (2, .int a2)], []) (wd b w wl H0 s, kn) none (wd b w wl H0 (D_X9_weigh q s a1 a2), kn)
  refine rx_k 1 (1, [(0, .ref (b + (q + 5))), (1, .int a1), (2, .int a2)], [.ref (b + (q + 5))]) (fun _ _ => rfl) ?_
  refine rx_getf rfl rfl (wl_5 hP hq) rfl ?_
  refine rx_k 2 (6, [(0, .ref (b + (q + 5))), (1, .int a1), (2, .int a2)], [.int a1, .int a2, .ref (b + 1)]) (fun _ _ => rfl) ?_
  refine rx_inv rfl rfl (rc_X6_kind hP) rfl rfl rfl (q_recv (wg_1 hP)) rfl rfl ?_
  refine rx_k 3 (12, [(3, .int (D_X6_kind s a2 a1)), (0, .ref (b + (q + 5))), (1, .int a1), (2, .int a2)], [.int (-1), .int (D_X6_kind s a2 a1)]) (fun _ _ => rfl) ?_
  by_cases c0 : (D_X6_kind s a2 a1) = (-1)
  · refine rx_icT rfl (bt c0) ?_
    rw [(show (D_X9_weigh q s a1 a2) = s from ((if_pos c0).trans rfl))]
    exact rx_rv rfl
  · refine rx_icF rfl (bf c0) rfl ?_
    refine rx_k 1 (16, [(3, .int (D_X6_kind s a2 a1)), (0, .ref (b + (q + 5))), (1, .int a1), (2, .int a2)], [.int a1]) (fun _ _ => rfl) ?_
    refine rx_inv rfl rfl (rc_X11_isName) rfl rfl rfl rfl rfl rfl ?_
    by_cases c1 : (D_X11_isName a1) = 0
    · refine rx_ifF rfl (nf c1) rfl ?_
      rw [(show (D_X9_weigh q s a1 a2) = s from ((if_neg c0).trans ((if_pos c1).trans rfl)))]
      exact rx_rv rfl
    · refine rx_ifT rfl (nt c1) ?_
      refine rx_k 1 (24, [(3, .int (D_X6_kind s a2 a1)), (0, .ref (b + (q + 5))), (1, .int a1), (2, .int a2)], [.int (D_X6_kind s a2 a1)]) (fun _ _ => rfl) ?_
      by_cases c2 : (D_X6_kind s a2 a1) = 0
      · refine rx_ifF rfl (nf c2) rfl ?_
        refine rx_k 1 (28, [(3, .int (D_X6_kind s a2 a1)), (0, .ref (b + (q + 5))), (1, .int a1), (2, .int a2)], [.ref (b + (q + 5))]) (fun _ _ => rfl) ?_
        refine rx_getf rfl rfl (wl_5 hP hq) rfl ?_
        refine rx_k 1 (32, [(3, .int (D_X6_kind s a2 a1)), (0, .ref (b + (q + 5))), (1, .int a1), (2, .int a2)], [.int a1, .ref (b + (q + 6))]) (fun _ _ => rfl) ?_
        refine rx_ild rfl rfl (wl_6 hP hq) (ar_at (rg_isName c1)) ?_
        by_cases c3 : (s (q + 6) a1.toNatClampNeg) = 0
        · refine rx_ifF rfl (nf c3) rfl ?_
          refine rx_k 2 (38, [(3, .int (D_X6_kind s a2 a1)), (0, .ref (b + (q + 5))), (1, .int a1), (2, .int a2)], [.ref (b + (q + 5)), .ref (b + (q + 5))]) (fun _ _ => rfl) ?_
          refine rx_getf rfl rfl (wl_5 hP hq) rfl ?_
          refine rx_k 4 (45, [(3, .int (D_X6_kind s a2 a1)), (0, .ref (b + (q + 5))), (1, .int a1), (2, .int a2)], [.int ((s (q + 5) 9) ||| (1 <<< (a1 &&& 31))), .ref (b + (q + 5))]) (fun _ _ => rfl) ?_
          refine rx_putf rfl rfl (wl_5 hP hq) rfl (wz_5_9 hP hq) ?_
          refine rx_k 1 (144, [(3, .int (D_X6_kind s a2 a1)), (0, .ref (b + (q + 5))), (1, .int a1), (2, .int a2)], []) (fun _ _ => rfl) ?_
          rw [(show (D_X9_weigh q s a1 a2) = (up s (q + 5) 9 ((s (q + 5) 9) ||| (1 <<< (a1 &&& 31)))) from ((if_neg c0).trans ((if_neg c1).trans ((if_pos c2).trans ((if_pos c3).trans rfl)))))]
          exact rx_rv rfl
        · refine rx_ifT rfl (nt c3) ?_
          refine rx_k 2 (53, [(3, .int (D_X6_kind s a2 a1)), (0, .ref (b + (q + 5))), (1, .int a1), (2, .int a2)], [.int 1, .int (D_X6_kind s a2 a1)]) (fun _ _ => rfl) ?_
          by_cases c4 : (D_X6_kind s a2 a1) = 1
          · refine rx_icF rfl (nf c4) rfl ?_
            refine rx_k 1 (57, [(3, .int (D_X6_kind s a2 a1)), (0, .ref (b + (q + 5))), (1, .int a1), (2, .int a2)], [.ref (b + (q + 5))]) (fun _ _ => rfl) ?_
            refine rx_getf rfl rfl (wl_5 hP hq) rfl ?_
            refine rx_k 1 (61, [(3, .int (D_X6_kind s a2 a1)), (0, .ref (b + (q + 5))), (1, .int a1), (2, .int a2)], [.int a1, .ref (b + (q + 6))]) (fun _ _ => rfl) ?_
            refine rx_ild rfl rfl (wl_6 hP hq) (ar_at (rg_isName c1)) ?_
            refine rx_k 1 (63, [(3, .int (D_X6_kind s a2 a1)), (0, .ref (b + (q + 5))), (1, .int a1), (2, .int a2)], [.int 1, .int (s (q + 6) a1.toNatClampNeg)]) (fun _ _ => rfl) ?_
            by_cases c5 : (s (q + 6) a1.toNatClampNeg) = 1
            · refine rx_icF rfl (nf c5) rfl ?_
              refine rx_k 1 (67, [(3, .int (D_X6_kind s a2 a1)), (0, .ref (b + (q + 5))), (1, .int a1), (2, .int a2)], [.ref (b + (q + 5))]) (fun _ _ => rfl) ?_
              refine rx_getf rfl rfl (wl_5 hP hq) rfl ?_
              refine rx_k 2 (72, [(3, .int (D_X6_kind s a2 a1)), (0, .ref (b + (q + 5))), (1, .int a1), (2, .int a2)], [.ref (b + (q + 5)), .int a1, .ref (b + (q + 10))]) (fun _ _ => rfl) ?_
              refine rx_getf rfl rfl (wl_5 hP hq) rfl ?_
              refine rx_k 1 (76, [(3, .int (D_X6_kind s a2 a1)), (0, .ref (b + (q + 5))), (1, .int a1), (2, .int a2)], [.int a1, .ref (b + (q + 10)), .int a1, .ref (b + (q + 10))]) (fun _ _ => rfl) ?_
              refine rx_ild rfl rfl (wl_10 hP hq) (ar_at (rg_isName c1)) ?_
              refine rx_k 1 (78, [(3, .int (D_X6_kind s a2 a1)), (0, .ref (b + (q + 5))), (1, .int a1), (2, .int a2)], [.ref (b + (q + 5)), .int (s (q + 10) a1.toNatClampNeg), .int a1, .ref (b + (q + 10))]) (fun _ _ => rfl) ?_
              refine rx_getf rfl rfl (wl_5 hP hq) rfl ?_
              refine rx_k 2 (83, [(3, .int (D_X6_kind s a2 a1)), (0, .ref (b + (q + 5))), (1, .int a1), (2, .int a2)], [.int a1, .int a2, .ref (b + 1), .int (s (q + 10) a1.toNatClampNeg), .int a1, .ref (b + (q + 10))]) (fun _ _ => rfl) ?_
              refine rx_inv rfl rfl (rc_X6_size hP) rfl rfl rfl (q_recv (wg_1 hP)) rfl rfl ?_
              refine rx_inv rfl rfl (rc_J9_max_7cf53) rfl rfl rfl rfl rfl rfl ?_
              refine rx_ist rfl rfl (wl_10 hP hq) rfl (ar_at (rg_isName c1)) (wz_10 hP hq (rg_isName c1)) ?_
              refine rx_k 1 (91, [(3, .int (D_X6_kind s a2 a1)), (0, .ref (b + (q + 5))), (1, .int a1), (2, .int a2)], [.ref (b + (q + 5))]) (fun _ _ => rfl) ?_
              refine rx_getf rfl rfl (wl_5 hP hq) rfl ?_
              refine rx_k 2 (96, [(3, .int (D_X6_kind s a2 a1)), (0, .ref (b + (q + 5))), (1, .int a1), (2, .int a2)], [.ref (b + (q + 5)), .int a1, .ref (b + (q + 11))]) (fun _ _ => rfl) ?_
              refine rx_getf rfl rfl (wl_5 hP hq) rfl ?_
              refine rx_k 1 (100, [(3, .int (D_X6_kind s a2 a1)), (0, .ref (b + (q + 5))), (1, .int a1), (2, .int a2)], [.int a1, .ref (b + (q + 11)), .int a1, .ref (b + (q + 11))]) (fun _ _ => rfl) ?_
              refine rx_ild (x := (s (q + 11) a1.toNatClampNeg)) rfl rfl (wl_11 hP hq) ((ar_at (rg_isName c1)).trans (congrArg (fun z => some (Value.int z)) (rd_nk (by omega)))) ?_
              refine rx_k 1 (102, [(3, .int (D_X6_kind s a2 a1)), (0, .ref (b + (q + 5))), (1, .int a1), (2, .int a2)], [.ref (b + (q + 5)), .int (s (q + 11) a1.toNatClampNeg), .int a1, .ref (b + (q + 11))]) (fun _ _ => rfl) ?_
              refine rx_getf rfl rfl (wl_5 hP hq) rfl ?_
              refine rx_k 2 (107, [(3, .int (D_X6_kind s a2 a1)), (0, .ref (b + (q + 5))), (1, .int a1), (2, .int a2)], [.int a1, .int a2, .ref (b + 1), .int (s (q + 11) a1.toNatClampNeg), .int a1, .ref (b + (q + 11))]) (fun _ _ => rfl) ?_
              refine rx_inv rfl rfl (rc_X6_align hP) rfl rfl rfl (q_recv (wg_1 hP)) rfl rfl ?_
              refine rx_inv rfl rfl (rc_J9_max_7cf53) rfl rfl rfl rfl rfl rfl ?_
              refine rx_ist rfl rfl (wl_11 hP hq) rfl (ar_at (rg_isName c1)) (wz_11 hP hq (rg_isName c1)) ?_
              refine rx_k 1 (144, [(3, .int (D_X6_kind s a2 a1)), (0, .ref (b + (q + 5))), (1, .int a1), (2, .int a2)], []) (fun _ _ => rfl) ?_
              rw [(show (D_X9_weigh q s a1 a2) = (up (up s (q + 10) a1.toNatClampNeg (D_J9_max_7cf53 (s (q + 10) a1.toNatClampNeg) (D_X6_size s a2 a1))) (q + 11) a1.toNatClampNeg (D_J9_max_7cf53 (s (q + 11) a1.toNatClampNeg) (D_X6_align (up s (q + 10) a1.toNatClampNeg (D_J9_max_7cf53 (s (q + 10) a1.toNatClampNeg) (D_X6_size s a2 a1))) a2 a1))) from ((if_neg c0).trans ((if_neg c1).trans ((if_pos c2).trans ((if_neg c3).trans ((if_pos c4).trans ((if_pos c5).trans rfl)))))))]
              exact rx_rv rfl
            · refine rx_icT rfl (nt c5) ?_
              refine rx_k 1 (118, [(3, .int (D_X6_kind s a2 a1)), (0, .ref (b + (q + 5))), (1, .int a1), (2, .int a2)], [.ref (b + (q + 5))]) (fun _ _ => rfl) ?_
              refine rx_getf rfl rfl (wl_5 hP hq) rfl ?_
              refine rx_k 1 (122, [(3, .int (D_X6_kind s a2 a1)), (0, .ref (b + (q + 5))), (1, .int a1), (2, .int a2)], [.int a1, .ref (b + (q + 6))]) (fun _ _ => rfl) ?_
              refine rx_ild rfl rfl (wl_6 hP hq) (ar_at (rg_isName c1)) ?_
              refine rx_k 1 (124, [(3, .int (D_X6_kind s a2 a1)), (0, .ref (b + (q + 5))), (1, .int a1), (2, .int a2)], [.int (-1), .int (s (q + 6) a1.toNatClampNeg)]) (fun _ _ => rfl) ?_
              by_cases c6 : (s (q + 6) a1.toNatClampNeg) = (-1)
              · refine rx_icT rfl (bt c6) ?_
                refine rx_k 4 (141, [(3, .int (D_X6_kind s a2 a1)), (0, .ref (b + (q + 5))), (1, .int a1), (2, .int a2)], [.int (D_X6_kind s a2 a1), .int a2, .int a1, .ref (b + (q + 5))]) (fun _ _ => rfl) ?_
                refine rx_inv rfl rfl (rc_X9_adopt hP hq hN) rfl rfl rfl (q_recv (wl_5 hP hq)) rfl rfl ?_
                rw [(show (D_X9_weigh q s a1 a2) = (D_X9_adopt q s a1 a2 (D_X6_kind s a2 a1)) from ((if_neg c0).trans ((if_neg c1).trans ((if_pos c2).trans ((if_neg c3).trans ((if_pos c4).trans ((if_neg c5).trans ((if_pos c6).trans rfl))))))))]
                exact rx_rv rfl
              · refine rx_icF rfl (bf c6) rfl ?_
                refine rx_k 2 (129, [(3, .int (D_X6_kind s a2 a1)), (0, .ref (b + (q + 5))), (1, .int a1), (2, .int a2)], [.ref (b + (q + 5)), .int (D_X6_kind s a2 a1)]) (fun _ _ => rfl) ?_
                refine rx_getf rfl rfl (wl_5 hP hq) rfl ?_
                refine rx_k 1 (133, [(3, .int (D_X6_kind s a2 a1)), (0, .ref (b + (q + 5))), (1, .int a1), (2, .int a2)], [.int a1, .ref (b + (q + 6)), .int (D_X6_kind s a2 a1)]) (fun _ _ => rfl) ?_
                refine rx_ild rfl rfl (wl_6 hP hq) (ar_at (rg_isName c1)) ?_
                by_cases c7 : (s (q + 6) a1.toNatClampNeg) ≤ (D_X6_kind s a2 a1)
                · refine rx_icT rfl (bt c7) ?_
                  rw [(show (D_X9_weigh q s a1 a2) = s from ((if_neg c0).trans ((if_neg c1).trans ((if_pos c2).trans ((if_neg c3).trans ((if_pos c4).trans ((if_neg c5).trans ((if_neg c6).trans ((if_pos c7).trans rfl)))))))))]
                  exact rx_rv rfl
                · refine rx_icF rfl (bf c7) rfl ?_
                  refine rx_k 4 (141, [(3, .int (D_X6_kind s a2 a1)), (0, .ref (b + (q + 5))), (1, .int a1), (2, .int a2)], [.int (D_X6_kind s a2 a1), .int a2, .int a1, .ref (b + (q + 5))]) (fun _ _ => rfl) ?_
                  refine rx_inv rfl rfl (rc_X9_adopt hP hq hN) rfl rfl rfl (q_recv (wl_5 hP hq)) rfl rfl ?_
                  rw [(show (D_X9_weigh q s a1 a2) = (D_X9_adopt q s a1 a2 (D_X6_kind s a2 a1)) from ((if_neg c0).trans ((if_neg c1).trans ((if_pos c2).trans ((if_neg c3).trans ((if_pos c4).trans ((if_neg c5).trans ((if_neg c6).trans ((if_neg c7).trans rfl)))))))))]
                  exact rx_rv rfl
          · refine rx_icT rfl (nt c4) ?_
            refine rx_k 1 (118, [(3, .int (D_X6_kind s a2 a1)), (0, .ref (b + (q + 5))), (1, .int a1), (2, .int a2)], [.ref (b + (q + 5))]) (fun _ _ => rfl) ?_
            refine rx_getf rfl rfl (wl_5 hP hq) rfl ?_
            refine rx_k 1 (122, [(3, .int (D_X6_kind s a2 a1)), (0, .ref (b + (q + 5))), (1, .int a1), (2, .int a2)], [.int a1, .ref (b + (q + 6))]) (fun _ _ => rfl) ?_
            refine rx_ild rfl rfl (wl_6 hP hq) (ar_at (rg_isName c1)) ?_
            refine rx_k 1 (124, [(3, .int (D_X6_kind s a2 a1)), (0, .ref (b + (q + 5))), (1, .int a1), (2, .int a2)], [.int (-1), .int (s (q + 6) a1.toNatClampNeg)]) (fun _ _ => rfl) ?_
            by_cases c8 : (s (q + 6) a1.toNatClampNeg) = (-1)
            · refine rx_icT rfl (bt c8) ?_
              refine rx_k 4 (141, [(3, .int (D_X6_kind s a2 a1)), (0, .ref (b + (q + 5))), (1, .int a1), (2, .int a2)], [.int (D_X6_kind s a2 a1), .int a2, .int a1, .ref (b + (q + 5))]) (fun _ _ => rfl) ?_
              refine rx_inv rfl rfl (rc_X9_adopt hP hq hN) rfl rfl rfl (q_recv (wl_5 hP hq)) rfl rfl ?_
              rw [(show (D_X9_weigh q s a1 a2) = (D_X9_adopt q s a1 a2 (D_X6_kind s a2 a1)) from ((if_neg c0).trans ((if_neg c1).trans ((if_pos c2).trans ((if_neg c3).trans ((if_neg c4).trans ((if_pos c8).trans rfl)))))))]
              exact rx_rv rfl
            · refine rx_icF rfl (bf c8) rfl ?_
              refine rx_k 2 (129, [(3, .int (D_X6_kind s a2 a1)), (0, .ref (b + (q + 5))), (1, .int a1), (2, .int a2)], [.ref (b + (q + 5)), .int (D_X6_kind s a2 a1)]) (fun _ _ => rfl) ?_
              refine rx_getf rfl rfl (wl_5 hP hq) rfl ?_
              refine rx_k 1 (133, [(3, .int (D_X6_kind s a2 a1)), (0, .ref (b + (q + 5))), (1, .int a1), (2, .int a2)], [.int a1, .ref (b + (q + 6)), .int (D_X6_kind s a2 a1)]) (fun _ _ => rfl) ?_
              refine rx_ild rfl rfl (wl_6 hP hq) (ar_at (rg_isName c1)) ?_
              by_cases c9 : (s (q + 6) a1.toNatClampNeg) ≤ (D_X6_kind s a2 a1)
              · refine rx_icT rfl (bt c9) ?_
                rw [(show (D_X9_weigh q s a1 a2) = s from ((if_neg c0).trans ((if_neg c1).trans ((if_pos c2).trans ((if_neg c3).trans ((if_neg c4).trans ((if_neg c8).trans ((if_pos c9).trans rfl))))))))]
                exact rx_rv rfl
              · refine rx_icF rfl (bf c9) rfl ?_
                refine rx_k 4 (141, [(3, .int (D_X6_kind s a2 a1)), (0, .ref (b + (q + 5))), (1, .int a1), (2, .int a2)], [.int (D_X6_kind s a2 a1), .int a2, .int a1, .ref (b + (q + 5))]) (fun _ _ => rfl) ?_
                refine rx_inv rfl rfl (rc_X9_adopt hP hq hN) rfl rfl rfl (q_recv (wl_5 hP hq)) rfl rfl ?_
                rw [(show (D_X9_weigh q s a1 a2) = (D_X9_adopt q s a1 a2 (D_X6_kind s a2 a1)) from ((if_neg c0).trans ((if_neg c1).trans ((if_pos c2).trans ((if_neg c3).trans ((if_neg c4).trans ((if_neg c8).trans ((if_neg c9).trans rfl))))))))]
                exact rx_rv rfl
      · refine rx_ifT rfl (nt c2) ?_
        refine rx_k 2 (53, [(3, .int (D_X6_kind s a2 a1)), (0, .ref (b + (q + 5))), (1, .int a1), (2, .int a2)], [.int 1, .int (D_X6_kind s a2 a1)]) (fun _ _ => rfl) ?_
        by_cases c10 : (D_X6_kind s a2 a1) = 1
        · refine rx_icF rfl (nf c10) rfl ?_
          refine rx_k 1 (57, [(3, .int (D_X6_kind s a2 a1)), (0, .ref (b + (q + 5))), (1, .int a1), (2, .int a2)], [.ref (b + (q + 5))]) (fun _ _ => rfl) ?_
          refine rx_getf rfl rfl (wl_5 hP hq) rfl ?_
          refine rx_k 1 (61, [(3, .int (D_X6_kind s a2 a1)), (0, .ref (b + (q + 5))), (1, .int a1), (2, .int a2)], [.int a1, .ref (b + (q + 6))]) (fun _ _ => rfl) ?_
          refine rx_ild rfl rfl (wl_6 hP hq) (ar_at (rg_isName c1)) ?_
          refine rx_k 1 (63, [(3, .int (D_X6_kind s a2 a1)), (0, .ref (b + (q + 5))), (1, .int a1), (2, .int a2)], [.int 1, .int (s (q + 6) a1.toNatClampNeg)]) (fun _ _ => rfl) ?_
          by_cases c11 : (s (q + 6) a1.toNatClampNeg) = 1
          · refine rx_icF rfl (nf c11) rfl ?_
            refine rx_k 1 (67, [(3, .int (D_X6_kind s a2 a1)), (0, .ref (b + (q + 5))), (1, .int a1), (2, .int a2)], [.ref (b + (q + 5))]) (fun _ _ => rfl) ?_
            refine rx_getf rfl rfl (wl_5 hP hq) rfl ?_
            refine rx_k 2 (72, [(3, .int (D_X6_kind s a2 a1)), (0, .ref (b + (q + 5))), (1, .int a1), (2, .int a2)], [.ref (b + (q + 5)), .int a1, .ref (b + (q + 10))]) (fun _ _ => rfl) ?_
            refine rx_getf rfl rfl (wl_5 hP hq) rfl ?_
            refine rx_k 1 (76, [(3, .int (D_X6_kind s a2 a1)), (0, .ref (b + (q + 5))), (1, .int a1), (2, .int a2)], [.int a1, .ref (b + (q + 10)), .int a1, .ref (b + (q + 10))]) (fun _ _ => rfl) ?_
            refine rx_ild rfl rfl (wl_10 hP hq) (ar_at (rg_isName c1)) ?_
            refine rx_k 1 (78, [(3, .int (D_X6_kind s a2 a1)), (0, .ref (b + (q + 5))), (1, .int a1), (2, .int a2)], [.ref (b + (q + 5)), .int (s (q + 10) a1.toNatClampNeg), .int a1, .ref (b + (q + 10))]) (fun _ _ => rfl) ?_
            refine rx_getf rfl rfl (wl_5 hP hq) rfl ?_
            refine rx_k 2 (83, [(3, .int (D_X6_kind s a2 a1)), (0, .ref (b + (q + 5))), (1, .int a1), (2, .int a2)], [.int a1, .int a2, .ref (b + 1), .int (s (q + 10) a1.toNatClampNeg), .int a1, .ref (b + (q + 10))]) (fun _ _ => rfl) ?_
            refine rx_inv rfl rfl (rc_X6_size hP) rfl rfl rfl (q_recv (wg_1 hP)) rfl rfl ?_
            refine rx_inv rfl rfl (rc_J9_max_7cf53) rfl rfl rfl rfl rfl rfl ?_
            refine rx_ist rfl rfl (wl_10 hP hq) rfl (ar_at (rg_isName c1)) (wz_10 hP hq (rg_isName c1)) ?_
            refine rx_k 1 (91, [(3, .int (D_X6_kind s a2 a1)), (0, .ref (b + (q + 5))), (1, .int a1), (2, .int a2)], [.ref (b + (q + 5))]) (fun _ _ => rfl) ?_
            refine rx_getf rfl rfl (wl_5 hP hq) rfl ?_
            refine rx_k 2 (96, [(3, .int (D_X6_kind s a2 a1)), (0, .ref (b + (q + 5))), (1, .int a1), (2, .int a2)], [.ref (b + (q + 5)), .int a1, .ref (b + (q + 11))]) (fun _ _ => rfl) ?_
            refine rx_getf rfl rfl (wl_5 hP hq) rfl ?_
            refine rx_k 1 (100, [(3, .int (D_X6_kind s a2 a1)), (0, .ref (b + (q + 5))), (1, .int a1), (2, .int a2)], [.int a1, .ref (b + (q + 11)), .int a1, .ref (b + (q + 11))]) (fun _ _ => rfl) ?_
            refine rx_ild (x := (s (q + 11) a1.toNatClampNeg)) rfl rfl (wl_11 hP hq) ((ar_at (rg_isName c1)).trans (congrArg (fun z => some (Value.int z)) (rd_nk (by omega)))) ?_
            refine rx_k 1 (102, [(3, .int (D_X6_kind s a2 a1)), (0, .ref (b + (q + 5))), (1, .int a1), (2, .int a2)], [.ref (b + (q + 5)), .int (s (q + 11) a1.toNatClampNeg), .int a1, .ref (b + (q + 11))]) (fun _ _ => rfl) ?_
            refine rx_getf rfl rfl (wl_5 hP hq) rfl ?_
            refine rx_k 2 (107, [(3, .int (D_X6_kind s a2 a1)), (0, .ref (b + (q + 5))), (1, .int a1), (2, .int a2)], [.int a1, .int a2, .ref (b + 1), .int (s (q + 11) a1.toNatClampNeg), .int a1, .ref (b + (q + 11))]) (fun _ _ => rfl) ?_
            refine rx_inv rfl rfl (rc_X6_align hP) rfl rfl rfl (q_recv (wg_1 hP)) rfl rfl ?_
            refine rx_inv rfl rfl (rc_J9_max_7cf53) rfl rfl rfl rfl rfl rfl ?_
            refine rx_ist rfl rfl (wl_11 hP hq) rfl (ar_at (rg_isName c1)) (wz_11 hP hq (rg_isName c1)) ?_
            refine rx_k 1 (144, [(3, .int (D_X6_kind s a2 a1)), (0, .ref (b + (q + 5))), (1, .int a1), (2, .int a2)], []) (fun _ _ => rfl) ?_
            rw [(show (D_X9_weigh q s a1 a2) = (up (up s (q + 10) a1.toNatClampNeg (D_J9_max_7cf53 (s (q + 10) a1.toNatClampNeg) (D_X6_size s a2 a1))) (q + 11) a1.toNatClampNeg (D_J9_max_7cf53 (s (q + 11) a1.toNatClampNeg) (D_X6_align (up s (q + 10) a1.toNatClampNeg (D_J9_max_7cf53 (s (q + 10) a1.toNatClampNeg) (D_X6_size s a2 a1))) a2 a1))) from ((if_neg c0).trans ((if_neg c1).trans ((if_neg c2).trans ((if_pos c10).trans ((if_pos c11).trans rfl))))))]
            exact rx_rv rfl
          · refine rx_icT rfl (nt c11) ?_
            refine rx_k 1 (118, [(3, .int (D_X6_kind s a2 a1)), (0, .ref (b + (q + 5))), (1, .int a1), (2, .int a2)], [.ref (b + (q + 5))]) (fun _ _ => rfl) ?_
            refine rx_getf rfl rfl (wl_5 hP hq) rfl ?_
            refine rx_k 1 (122, [(3, .int (D_X6_kind s a2 a1)), (0, .ref (b + (q + 5))), (1, .int a1), (2, .int a2)], [.int a1, .ref (b + (q + 6))]) (fun _ _ => rfl) ?_
            refine rx_ild rfl rfl (wl_6 hP hq) (ar_at (rg_isName c1)) ?_
            refine rx_k 1 (124, [(3, .int (D_X6_kind s a2 a1)), (0, .ref (b + (q + 5))), (1, .int a1), (2, .int a2)], [.int (-1), .int (s (q + 6) a1.toNatClampNeg)]) (fun _ _ => rfl) ?_
            by_cases c12 : (s (q + 6) a1.toNatClampNeg) = (-1)
            · refine rx_icT rfl (bt c12) ?_
              refine rx_k 4 (141, [(3, .int (D_X6_kind s a2 a1)), (0, .ref (b + (q + 5))), (1, .int a1), (2, .int a2)], [.int (D_X6_kind s a2 a1), .int a2, .int a1, .ref (b + (q + 5))]) (fun _ _ => rfl) ?_
              refine rx_inv rfl rfl (rc_X9_adopt hP hq hN) rfl rfl rfl (q_recv (wl_5 hP hq)) rfl rfl ?_
              rw [(show (D_X9_weigh q s a1 a2) = (D_X9_adopt q s a1 a2 (D_X6_kind s a2 a1)) from ((if_neg c0).trans ((if_neg c1).trans ((if_neg c2).trans ((if_pos c10).trans ((if_neg c11).trans ((if_pos c12).trans rfl)))))))]
              exact rx_rv rfl
            · refine rx_icF rfl (bf c12) rfl ?_
              refine rx_k 2 (129, [(3, .int (D_X6_kind s a2 a1)), (0, .ref (b + (q + 5))), (1, .int a1), (2, .int a2)], [.ref (b + (q + 5)), .int (D_X6_kind s a2 a1)]) (fun _ _ => rfl) ?_
              refine rx_getf rfl rfl (wl_5 hP hq) rfl ?_
              refine rx_k 1 (133, [(3, .int (D_X6_kind s a2 a1)), (0, .ref (b + (q + 5))), (1, .int a1), (2, .int a2)], [.int a1, .ref (b + (q + 6)), .int (D_X6_kind s a2 a1)]) (fun _ _ => rfl) ?_
              refine rx_ild rfl rfl (wl_6 hP hq) (ar_at (rg_isName c1)) ?_
              by_cases c13 : (s (q + 6) a1.toNatClampNeg) ≤ (D_X6_kind s a2 a1)
              · refine rx_icT rfl (bt c13) ?_
                rw [(show (D_X9_weigh q s a1 a2) = s from ((if_neg c0).trans ((if_neg c1).trans ((if_neg c2).trans ((if_pos c10).trans ((if_neg c11).trans ((if_neg c12).trans ((if_pos c13).trans rfl))))))))]
                exact rx_rv rfl
              · refine rx_icF rfl (bf c13) rfl ?_
                refine rx_k 4 (141, [(3, .int (D_X6_kind s a2 a1)), (0, .ref (b + (q + 5))), (1, .int a1), (2, .int a2)], [.int (D_X6_kind s a2 a1), .int a2, .int a1, .ref (b + (q + 5))]) (fun _ _ => rfl) ?_
                refine rx_inv rfl rfl (rc_X9_adopt hP hq hN) rfl rfl rfl (q_recv (wl_5 hP hq)) rfl rfl ?_
                rw [(show (D_X9_weigh q s a1 a2) = (D_X9_adopt q s a1 a2 (D_X6_kind s a2 a1)) from ((if_neg c0).trans ((if_neg c1).trans ((if_neg c2).trans ((if_pos c10).trans ((if_neg c11).trans ((if_neg c12).trans ((if_neg c13).trans rfl))))))))]
                exact rx_rv rfl
        · refine rx_icT rfl (nt c10) ?_
          refine rx_k 1 (118, [(3, .int (D_X6_kind s a2 a1)), (0, .ref (b + (q + 5))), (1, .int a1), (2, .int a2)], [.ref (b + (q + 5))]) (fun _ _ => rfl) ?_
          refine rx_getf rfl rfl (wl_5 hP hq) rfl ?_
          refine rx_k 1 (122, [(3, .int (D_X6_kind s a2 a1)), (0, .ref (b + (q + 5))), (1, .int a1), (2, .int a2)], [.int a1, .ref (b + (q + 6))]) (fun _ _ => rfl) ?_
          refine rx_ild rfl rfl (wl_6 hP hq) (ar_at (rg_isName c1)) ?_
          refine rx_k 1 (124, [(3, .int (D_X6_kind s a2 a1)), (0, .ref (b + (q + 5))), (1, .int a1), (2, .int a2)], [.int (-1), .int (s (q + 6) a1.toNatClampNeg)]) (fun _ _ => rfl) ?_
          by_cases c14 : (s (q + 6) a1.toNatClampNeg) = (-1)
          · refine rx_icT rfl (bt c14) ?_
            refine rx_k 4 (141, [(3, .int (D_X6_kind s a2 a1)), (0, .ref (b + (q + 5))), (1, .int a1), (2, .int a2)], [.int (D_X6_kind s a2 a1), .int a2, .int a1, .ref (b + (q + 5))]) (fun _ _ => rfl) ?_
            refine rx_inv rfl rfl (rc_X9_adopt hP hq hN) rfl rfl rfl (q_recv (wl_5 hP hq)) rfl rfl ?_
            rw [(show (D_X9_weigh q s a1 a2) = (D_X9_adopt q s a1 a2 (D_X6_kind s a2 a1)) from ((if_neg c0).trans ((if_neg c1).trans ((if_neg c2).trans ((if_neg c10).trans ((if_pos c14).trans rfl))))))]
            exact rx_rv rfl
          · refine rx_icF rfl (bf c14) rfl ?_
            refine rx_k 2 (129, [(3, .int (D_X6_kind s a2 a1)), (0, .ref (b + (q + 5))), (1, .int a1), (2, .int a2)], [.ref (b + (q + 5)), .int (D_X6_kind s a2 a1)]) (fun _ _ => rfl) ?_
            refine rx_getf rfl rfl (wl_5 hP hq) rfl ?_
            refine rx_k 1 (133, [(3, .int (D_X6_kind s a2 a1)), (0, .ref (b + (q + 5))), (1, .int a1), (2, .int a2)], [.int a1, .ref (b + (q + 6)), .int (D_X6_kind s a2 a1)]) (fun _ _ => rfl) ?_
            refine rx_ild rfl rfl (wl_6 hP hq) (ar_at (rg_isName c1)) ?_
            by_cases c15 : (s (q + 6) a1.toNatClampNeg) ≤ (D_X6_kind s a2 a1)
            · refine rx_icT rfl (bt c15) ?_
              rw [(show (D_X9_weigh q s a1 a2) = s from ((if_neg c0).trans ((if_neg c1).trans ((if_neg c2).trans ((if_neg c10).trans ((if_neg c14).trans ((if_pos c15).trans rfl)))))))]
              exact rx_rv rfl
            · refine rx_icF rfl (bf c15) rfl ?_
              refine rx_k 4 (141, [(3, .int (D_X6_kind s a2 a1)), (0, .ref (b + (q + 5))), (1, .int a1), (2, .int a2)], [.int (D_X6_kind s a2 a1), .int a2, .int a1, .ref (b + (q + 5))]) (fun _ _ => rfl) ?_
              refine rx_inv rfl rfl (rc_X9_adopt hP hq hN) rfl rfl rfl (q_recv (wl_5 hP hq)) rfl rfl ?_
              rw [(show (D_X9_weigh q s a1 a2) = (D_X9_adopt q s a1 a2 (D_X6_kind s a2 a1)) from ((if_neg c0).trans ((if_neg c1).trans ((if_neg c2).trans ((if_neg c10).trans ((if_neg c14).trans ((if_neg c15).trans rfl)))))))]
              exact rx_rv rfl
theorem rc_X9_weigh (hP : WOK b w H0) {q : Nat} (hq : q = 38 ∨ q = 60) {s : Sg} {a1 : Int32} {a2 : Int32} (hN : NN s) : Rc sc 4 138 [.ref (b + (q + 5)), .int a1, .int a2] (wd b w wl H0 s, kn) none (wd b w wl H0 (D_X9_weigh q s a1 a2), kn) := rx_mc (m_X9_weigh hP hq hN) rfl rfl (Nat.ble_eq_true_of_le (Nat.le_refl _)) (Nat.ble_eq_true_of_le (Nat.le_refl _))
theorem nn_X9_weigh {q : Nat} (hq : q = 38 ∨ q = 60) {s : Sg} {a1 : Int32} {a2 : Int32} (hN : NN s) : NN (D_X9_weigh q s a1 a2) := by
  by_cases c0 : (D_X6_kind s a2 a1) = (-1)
  · rw [show (D_X9_weigh q s a1 a2) = s from ((if_pos c0).trans rfl)]
    exact hN
  · by_cases c1 : (D_X11_isName a1) = 0
    · rw [show (D_X9_weigh q s a1 a2) = s from ((if_neg c0).trans ((if_pos c1).trans rfl))]
      exact hN
    · by_cases c2 : (D_X6_kind s a2 a1) = 0
      · by_cases c3 : (s (q + 6) a1.toNatClampNeg) = 0
        · rw [show (D_X9_weigh q s a1 a2) = (up s (q + 5) 9 ((s (q + 5) 9) ||| (1 <<< (a1 &&& 31)))) from ((if_neg c0).trans ((if_neg c1).trans ((if_pos c2).trans ((if_pos c3).trans rfl))))]
          exact (nn_0 (by rcases hq with rfl | rfl <;> rfl) hN)
        · by_cases c4 : (D_X6_kind s a2 a1) = 1
          · by_cases c5 : (s (q + 6) a1.toNatClampNeg) = 1
            · rw [show (D_X9_weigh q s a1 a2) = (up (up s (q + 10) a1.toNatClampNeg (D_J9_max_7cf53 (s (q + 10) a1.toNatClampNeg) (D_X6_size s a2 a1))) (q + 11) a1.toNatClampNeg (D_J9_max_7cf53 (s (q + 11) a1.toNatClampNeg) (D_X6_align (up s (q + 10) a1.toNatClampNeg (D_J9_max_7cf53 (s (q + 10) a1.toNatClampNeg) (D_X6_size s a2 a1))) a2 a1))) from ((if_neg c0).trans ((if_neg c1).trans ((if_pos c2).trans ((if_neg c3).trans ((if_pos c4).trans ((if_pos c5).trans rfl))))))]
              exact (nn_0 (by rcases hq with rfl | rfl <;> rfl) (nn_0 (by rcases hq with rfl | rfl <;> rfl) hN))
            · by_cases c6 : (s (q + 6) a1.toNatClampNeg) = (-1)
              · rw [show (D_X9_weigh q s a1 a2) = (D_X9_adopt q s a1 a2 (D_X6_kind s a2 a1)) from ((if_neg c0).trans ((if_neg c1).trans ((if_pos c2).trans ((if_neg c3).trans ((if_pos c4).trans ((if_neg c5).trans ((if_pos c6).trans rfl)))))))]
                exact (nn_X9_adopt hq hN)
              · by_cases c7 : (s (q + 6) a1.toNatClampNeg) ≤ (D_X6_kind s a2 a1)
                · rw [show (D_X9_weigh q s a1 a2) = s from ((if_neg c0).trans ((if_neg c1).trans ((if_pos c2).trans ((if_neg c3).trans ((if_pos c4).trans ((if_neg c5).trans ((if_neg c6).trans ((if_pos c7).trans rfl))))))))]
                  exact hN
                · rw [show (D_X9_weigh q s a1 a2) = (D_X9_adopt q s a1 a2 (D_X6_kind s a2 a1)) from ((if_neg c0).trans ((if_neg c1).trans ((if_pos c2).trans ((if_neg c3).trans ((if_pos c4).trans ((if_neg c5).trans ((if_neg c6).trans ((if_neg c7).trans rfl))))))))]
                  exact (nn_X9_adopt hq hN)
          · by_cases c8 : (s (q + 6) a1.toNatClampNeg) = (-1)
            · rw [show (D_X9_weigh q s a1 a2) = (D_X9_adopt q s a1 a2 (D_X6_kind s a2 a1)) from ((if_neg c0).trans ((if_neg c1).trans ((if_pos c2).trans ((if_neg c3).trans ((if_neg c4).trans ((if_pos c8).trans rfl))))))]
              exact (nn_X9_adopt hq hN)
            · by_cases c9 : (s (q + 6) a1.toNatClampNeg) ≤ (D_X6_kind s a2 a1)
              · rw [show (D_X9_weigh q s a1 a2) = s from ((if_neg c0).trans ((if_neg c1).trans ((if_pos c2).trans ((if_neg c3).trans ((if_neg c4).trans ((if_neg c8).trans ((if_pos c9).trans rfl)))))))]
                exact hN
              · rw [show (D_X9_weigh q s a1 a2) = (D_X9_adopt q s a1 a2 (D_X6_kind s a2 a1)) from ((if_neg c0).trans ((if_neg c1).trans ((if_pos c2).trans ((if_neg c3).trans ((if_neg c4).trans ((if_neg c8).trans ((if_neg c9).trans rfl)))))))]
                exact (nn_X9_adopt hq hN)
      · by_cases c10 : (D_X6_kind s a2 a1) = 1
        · by_cases c11 : (s (q + 6) a1.toNatClampNeg) = 1
          · rw [show (D_X9_weigh q s a1 a2) = (up (up s (q + 10) a1.toNatClampNeg (D_J9_max_7cf53 (s (q + 10) a1.toNatClampNeg) (D_X6_size s a2 a1))) (q + 11) a1.toNatClampNeg (D_J9_max_7cf53 (s (q + 11) a1.toNatClampNeg) (D_X6_align (up s (q + 10) a1.toNatClampNeg (D_J9_max_7cf53 (s (q + 10) a1.toNatClampNeg) (D_X6_size s a2 a1))) a2 a1))) from ((if_neg c0).trans ((if_neg c1).trans ((if_neg c2).trans ((if_pos c10).trans ((if_pos c11).trans rfl)))))]
            exact (nn_0 (by rcases hq with rfl | rfl <;> rfl) (nn_0 (by rcases hq with rfl | rfl <;> rfl) hN))
          · by_cases c12 : (s (q + 6) a1.toNatClampNeg) = (-1)
            · rw [show (D_X9_weigh q s a1 a2) = (D_X9_adopt q s a1 a2 (D_X6_kind s a2 a1)) from ((if_neg c0).trans ((if_neg c1).trans ((if_neg c2).trans ((if_pos c10).trans ((if_neg c11).trans ((if_pos c12).trans rfl))))))]
              exact (nn_X9_adopt hq hN)
            · by_cases c13 : (s (q + 6) a1.toNatClampNeg) ≤ (D_X6_kind s a2 a1)
              · rw [show (D_X9_weigh q s a1 a2) = s from ((if_neg c0).trans ((if_neg c1).trans ((if_neg c2).trans ((if_pos c10).trans ((if_neg c11).trans ((if_neg c12).trans ((if_pos c13).trans rfl)))))))]
                exact hN
              · rw [show (D_X9_weigh q s a1 a2) = (D_X9_adopt q s a1 a2 (D_X6_kind s a2 a1)) from ((if_neg c0).trans ((if_neg c1).trans ((if_neg c2).trans ((if_pos c10).trans ((if_neg c11).trans ((if_neg c12).trans ((if_neg c13).trans rfl)))))))]
                exact (nn_X9_adopt hq hN)
        · by_cases c14 : (s (q + 6) a1.toNatClampNeg) = (-1)
          · rw [show (D_X9_weigh q s a1 a2) = (D_X9_adopt q s a1 a2 (D_X6_kind s a2 a1)) from ((if_neg c0).trans ((if_neg c1).trans ((if_neg c2).trans ((if_neg c10).trans ((if_pos c14).trans rfl)))))]
            exact (nn_X9_adopt hq hN)
          · by_cases c15 : (s (q + 6) a1.toNatClampNeg) ≤ (D_X6_kind s a2 a1)
            · rw [show (D_X9_weigh q s a1 a2) = s from ((if_neg c0).trans ((if_neg c1).trans ((if_neg c2).trans ((if_neg c10).trans ((if_neg c14).trans ((if_pos c15).trans rfl))))))]
              exact hN
            · rw [show (D_X9_weigh q s a1 a2) = (D_X9_adopt q s a1 a2 (D_X6_kind s a2 a1)) from ((if_neg c0).trans ((if_neg c1).trans ((if_neg c2).trans ((if_neg c10).trans ((if_neg c14).trans ((if_neg c15).trans rfl))))))]
              exact (nn_X9_adopt hq hN)
theorem fw_X9_weigh {q : Nat} {s : Sg} {a1 : Int32} {a2 : Int32} {k j : Nat} (l5f8 : k ≠ q + 5 ∨ j ≠ 8) (l5f9 : k ≠ q + 5 ∨ j ≠ 9) (l6 : k ≠ q + 6) (l7 : k ≠ q + 7) (l8 : k ≠ q + 8) (l9 : k ≠ q + 9) (l10 : k ≠ q + 10) (l11 : k ≠ q + 11) : (D_X9_weigh q s a1 a2) k j = s k j := by
  by_cases c0 : (D_X6_kind s a2 a1) = (-1)
  · rw [show (D_X9_weigh q s a1 a2) = s from ((if_pos c0).trans rfl)]
    first | done | exact rfl
  · by_cases c1 : (D_X11_isName a1) = 0
    · rw [show (D_X9_weigh q s a1 a2) = s from ((if_neg c0).trans ((if_pos c1).trans rfl))]
      first | done | exact rfl
    · by_cases c2 : (D_X6_kind s a2 a1) = 0
      · by_cases c3 : (s (q + 6) a1.toNatClampNeg) = 0
        · rw [show (D_X9_weigh q s a1 a2) = (up s (q + 5) 9 ((s (q + 5) 9) ||| (1 <<< (a1 &&& 31)))) from ((if_neg c0).trans ((if_neg c1).trans ((if_pos c2).trans ((if_pos c3).trans rfl))))]
          first | done | exact ((up_f l5f9).trans rfl)
        · by_cases c4 : (D_X6_kind s a2 a1) = 1
          · by_cases c5 : (s (q + 6) a1.toNatClampNeg) = 1
            · rw [show (D_X9_weigh q s a1 a2) = (up (up s (q + 10) a1.toNatClampNeg (D_J9_max_7cf53 (s (q + 10) a1.toNatClampNeg) (D_X6_size s a2 a1))) (q + 11) a1.toNatClampNeg (D_J9_max_7cf53 (s (q + 11) a1.toNatClampNeg) (D_X6_align (up s (q + 10) a1.toNatClampNeg (D_J9_max_7cf53 (s (q + 10) a1.toNatClampNeg) (D_X6_size s a2 a1))) a2 a1))) from ((if_neg c0).trans ((if_neg c1).trans ((if_pos c2).trans ((if_neg c3).trans ((if_pos c4).trans ((if_pos c5).trans rfl))))))]
              first | done | exact ((up_a l11).trans ((up_a l10).trans rfl))
            · by_cases c6 : (s (q + 6) a1.toNatClampNeg) = (-1)
              · rw [show (D_X9_weigh q s a1 a2) = (D_X9_adopt q s a1 a2 (D_X6_kind s a2 a1)) from ((if_neg c0).trans ((if_neg c1).trans ((if_pos c2).trans ((if_neg c3).trans ((if_pos c4).trans ((if_neg c5).trans ((if_pos c6).trans rfl)))))))]
                first | done | exact ((fw_X9_adopt l5f8 l6 l7 l8 l9 l10 l11).trans rfl)
              · by_cases c7 : (s (q + 6) a1.toNatClampNeg) ≤ (D_X6_kind s a2 a1)
                · rw [show (D_X9_weigh q s a1 a2) = s from ((if_neg c0).trans ((if_neg c1).trans ((if_pos c2).trans ((if_neg c3).trans ((if_pos c4).trans ((if_neg c5).trans ((if_neg c6).trans ((if_pos c7).trans rfl))))))))]
                  first | done | exact rfl
                · rw [show (D_X9_weigh q s a1 a2) = (D_X9_adopt q s a1 a2 (D_X6_kind s a2 a1)) from ((if_neg c0).trans ((if_neg c1).trans ((if_pos c2).trans ((if_neg c3).trans ((if_pos c4).trans ((if_neg c5).trans ((if_neg c6).trans ((if_neg c7).trans rfl))))))))]
                  first | done | exact ((fw_X9_adopt l5f8 l6 l7 l8 l9 l10 l11).trans rfl)
          · by_cases c8 : (s (q + 6) a1.toNatClampNeg) = (-1)
            · rw [show (D_X9_weigh q s a1 a2) = (D_X9_adopt q s a1 a2 (D_X6_kind s a2 a1)) from ((if_neg c0).trans ((if_neg c1).trans ((if_pos c2).trans ((if_neg c3).trans ((if_neg c4).trans ((if_pos c8).trans rfl))))))]
              first | done | exact ((fw_X9_adopt l5f8 l6 l7 l8 l9 l10 l11).trans rfl)
            · by_cases c9 : (s (q + 6) a1.toNatClampNeg) ≤ (D_X6_kind s a2 a1)
              · rw [show (D_X9_weigh q s a1 a2) = s from ((if_neg c0).trans ((if_neg c1).trans ((if_pos c2).trans ((if_neg c3).trans ((if_neg c4).trans ((if_neg c8).trans ((if_pos c9).trans rfl)))))))]
                first | done | exact rfl
              · rw [show (D_X9_weigh q s a1 a2) = (D_X9_adopt q s a1 a2 (D_X6_kind s a2 a1)) from ((if_neg c0).trans ((if_neg c1).trans ((if_pos c2).trans ((if_neg c3).trans ((if_neg c4).trans ((if_neg c8).trans ((if_neg c9).trans rfl)))))))]
                first | done | exact ((fw_X9_adopt l5f8 l6 l7 l8 l9 l10 l11).trans rfl)
      · by_cases c10 : (D_X6_kind s a2 a1) = 1
        · by_cases c11 : (s (q + 6) a1.toNatClampNeg) = 1
          · rw [show (D_X9_weigh q s a1 a2) = (up (up s (q + 10) a1.toNatClampNeg (D_J9_max_7cf53 (s (q + 10) a1.toNatClampNeg) (D_X6_size s a2 a1))) (q + 11) a1.toNatClampNeg (D_J9_max_7cf53 (s (q + 11) a1.toNatClampNeg) (D_X6_align (up s (q + 10) a1.toNatClampNeg (D_J9_max_7cf53 (s (q + 10) a1.toNatClampNeg) (D_X6_size s a2 a1))) a2 a1))) from ((if_neg c0).trans ((if_neg c1).trans ((if_neg c2).trans ((if_pos c10).trans ((if_pos c11).trans rfl)))))]
            first | done | exact ((up_a l11).trans ((up_a l10).trans rfl))
          · by_cases c12 : (s (q + 6) a1.toNatClampNeg) = (-1)
            · rw [show (D_X9_weigh q s a1 a2) = (D_X9_adopt q s a1 a2 (D_X6_kind s a2 a1)) from ((if_neg c0).trans ((if_neg c1).trans ((if_neg c2).trans ((if_pos c10).trans ((if_neg c11).trans ((if_pos c12).trans rfl))))))]
              first | done | exact ((fw_X9_adopt l5f8 l6 l7 l8 l9 l10 l11).trans rfl)
            · by_cases c13 : (s (q + 6) a1.toNatClampNeg) ≤ (D_X6_kind s a2 a1)
              · rw [show (D_X9_weigh q s a1 a2) = s from ((if_neg c0).trans ((if_neg c1).trans ((if_neg c2).trans ((if_pos c10).trans ((if_neg c11).trans ((if_neg c12).trans ((if_pos c13).trans rfl)))))))]
                first | done | exact rfl
              · rw [show (D_X9_weigh q s a1 a2) = (D_X9_adopt q s a1 a2 (D_X6_kind s a2 a1)) from ((if_neg c0).trans ((if_neg c1).trans ((if_neg c2).trans ((if_pos c10).trans ((if_neg c11).trans ((if_neg c12).trans ((if_neg c13).trans rfl)))))))]
                first | done | exact ((fw_X9_adopt l5f8 l6 l7 l8 l9 l10 l11).trans rfl)
        · by_cases c14 : (s (q + 6) a1.toNatClampNeg) = (-1)
          · rw [show (D_X9_weigh q s a1 a2) = (D_X9_adopt q s a1 a2 (D_X6_kind s a2 a1)) from ((if_neg c0).trans ((if_neg c1).trans ((if_neg c2).trans ((if_neg c10).trans ((if_pos c14).trans rfl)))))]
            first | done | exact ((fw_X9_adopt l5f8 l6 l7 l8 l9 l10 l11).trans rfl)
          · by_cases c15 : (s (q + 6) a1.toNatClampNeg) ≤ (D_X6_kind s a2 a1)
            · rw [show (D_X9_weigh q s a1 a2) = s from ((if_neg c0).trans ((if_neg c1).trans ((if_neg c2).trans ((if_neg c10).trans ((if_neg c14).trans ((if_pos c15).trans rfl))))))]
              first | done | exact rfl
            · rw [show (D_X9_weigh q s a1 a2) = (D_X9_adopt q s a1 a2 (D_X6_kind s a2 a1)) from ((if_neg c0).trans ((if_neg c1).trans ((if_neg c2).trans ((if_neg c10).trans ((if_neg c14).trans ((if_neg c15).trans rfl))))))]
              first | done | exact ((fw_X9_adopt l5f8 l6 l7 l8 l9 l10 l11).trans rfl)
-- LinkHarbour$Settling.settle
def fr_X9_settle_6 (b w : Nat) (q : Nat) (x1 : Int32) : EF := (6, [(0, .ref (b + (q + 5))), (1, .int x1)], [])
def fe_X9_settle_6 (b w : Nat) (q : Nat) (x1 : Int32) : EF := (50, [], [])
def fr_X9_settle_14 (b w : Nat) (q : Nat) (a1 : Int32) (x2 : Int32) : EF := (14, [(0, .ref (b + (q + 5))), (1, .int a1), (2, .int x2)], [])
def fe_X9_settle_14 (b w : Nat) (q : Nat) (a1 : Int32) (x2 : Int32) : EF := (44, [(0, .ref (b + (q + 5))), (1, .int a1)], [])
noncomputable def B_X9_settle_14 (q : Nat) (a1 : Int32) (x2 : Int32) (s : Sg) : Bool × (Int32 × Sg) := (if (D_X10_count q s) ≤ x2 then (false, (x2, s)) else (true, ((x2 + 1), (D_X9_weigh q s a1 (D_X10_objectAt q s x2)))))
theorem b_X9_settle_14 (hP : WOK b w H0) {q : Nat} (hq : q = 38 ∨ q = 60) {s : Sg} {a1 : Int32} {x2 : Int32} (h1 : rg a1 20) (o : Option Value) (h' : EH) (hN : NN s) (hv : 0 ≤ x2.toInt) (hc : ∀ (t2 : Int32) (ts : Sg), (B_X9_settle_14 q a1 x2 s) = (true, (t2, ts)) → x2.toInt < 2147483647 → t2 = x2 + 1 → Rx sc g_X9_settle 4 (fr_X9_settle_14 b w q a1 t2) (wd b w wl H0 ts, kn) o h') (he : ∀ (t2 : Int32) (ts : Sg), (B_X9_settle_14 q a1 x2 s) = (false, (t2, ts)) → Rx sc g_X9_settle 4 (fe_X9_settle_14 b w q a1 t2) (wd b w wl H0 ts, kn) o h') : Rx sc g_X9_settle 4 (fr_X9_settle_14 b w q a1 x2) (wd b w wl H0 s, kn) o h' := by
  show Rx sc g_X9_settle 4 (14, [(0, .ref (b + (q + 5))), (1, .int a1), (2, .int x2)], []) (wd b w wl H0 s, kn) o h'
  refine rx_k 2 (16, [(0, .ref (b + (q + 5))), (1, .int a1), (2, .int x2)], [.ref (b + (q + 5)), .int x2]) (fun _ _ => rfl) ?_
  refine rx_getf rfl rfl (wl_5 hP hq) rfl ?_
  refine rx_inv rfl rfl (rc_X10_count hP hq) rfl rfl rfl (q_recv (wl_3 hP hq)) rfl rfl ?_
  by_cases c0 : (D_X10_count q s) ≤ x2
  · refine rx_icT rfl (bt c0) ?_
    exact rx_lo am_X9_settle (lo := [(0, .ref (b + (q + 5))), (1, .int a1)]) (List.forall_mem_cons.mpr ⟨List.mem_of_getElem? (i := 0) rfl, (List.forall_mem_cons.mpr ⟨List.mem_of_getElem? (i := 1) rfl, (fun _ h => absurd h List.not_mem_nil)⟩)⟩) rfl (he _ _ (show (B_X9_settle_14 q a1 x2 s) = (false, (x2, s)) from ((if_pos c0).trans rfl)))
  · refine rx_icF rfl (bf c0) rfl ?_
    refine rx_k 3 (28, [(0, .ref (b + (q + 5))), (1, .int a1), (2, .int x2)], [.ref (b + (q + 5)), .int a1, .ref (b + (q + 5))]) (fun _ _ => rfl) ?_
    refine rx_getf rfl rfl (wl_5 hP hq) rfl ?_
    refine rx_k 1 (32, [(0, .ref (b + (q + 5))), (1, .int a1), (2, .int x2)], [.int x2, .ref (b + (q + 3)), .int a1, .ref (b + (q + 5))]) (fun _ _ => rfl) ?_
    refine rx_inv rfl rfl (rc_X10_objectAt hP hq) rfl rfl rfl (q_recv (wl_3 hP hq)) rfl rfl ?_
    refine rx_inv rfl rfl (rc_X9_weigh hP hq hN) rfl rfl rfl (q_recv (wl_5 hP hq)) rfl rfl ?_
    refine rx_k 2 (14, [(2, .int (x2 + 1)), (0, .ref (b + (q + 5))), (1, .int a1)], []) (fun _ _ => rfl) ?_
    refine rx_lo am_X9_settle (lo := [(0, .ref (b + (q + 5))), (1, .int a1), (2, .int (x2 + 1))]) (List.forall_mem_cons.mpr ⟨List.mem_of_getElem? (i := 1) rfl, (List.forall_mem_cons.mpr ⟨List.mem_of_getElem? (i := 2) rfl, (List.forall_mem_cons.mpr ⟨List.mem_of_getElem? (i := 0) rfl, (fun _ h => absurd h List.not_mem_nil)⟩)⟩)⟩) rfl (hc _ _ (show (B_X9_settle_14 q a1 x2 s) = (true, ((x2 + 1), (D_X9_weigh q s a1 (D_X10_objectAt q s x2)))) from ((if_neg c0).trans rfl)) (lt_nle c0) rfl)
theorem nb_X9_settle_14 {q : Nat} (hq : q = 38 ∨ q = 60) {a1 : Int32} {x2 : Int32} {s : Sg} (hN : NN s) : ∃ (f : Bool) (t2 : Int32) (ts : Sg), (B_X9_settle_14 q a1 x2 s) = (f, (t2, ts)) ∧ NN ts := by
  by_cases c0 : (D_X10_count q s) ≤ x2
  · exact ⟨_, _, _, (show (B_X9_settle_14 q a1 x2 s) = (false, (x2, s)) from ((if_pos c0).trans rfl)), hN⟩
  · exact ⟨_, _, _, (show (B_X9_settle_14 q a1 x2 s) = (true, ((x2 + 1), (D_X9_weigh q s a1 (D_X10_objectAt q s x2)))) from ((if_neg c0).trans rfl)), (nn_X9_weigh hq hN)⟩
noncomputable def R_X9_settle_44 (q : Nat) (s : Sg) (a1 : Int32) : Bool × (Int32 × Sg) := (true, ((a1 + 1), s))
theorem r_X9_settle_44 (hP : WOK b w H0) {q : Nat} (hq : q = 38 ∨ q = 60) {s : Sg} {a1 : Int32} (h1 : rg a1 20) (o : Option Value) (h' : EH) (hN : NN s) (hv : 0 ≤ (a1).toInt) (hlt : (a1).toInt < 2147483647) (hc : ∀ (t1 : Int32) (ts : Sg), (R_X9_settle_44 q s a1) = (true, (t1, ts)) → a1.toInt < 2147483647 → t1 = a1 + 1 → Rx sc g_X9_settle 4 (fr_X9_settle_6 b w q t1) (wd b w wl H0 ts, kn) o h') (he : ∀ (t1 : Int32) (ts : Sg), (R_X9_settle_44 q s a1) = (false, (t1, ts)) → Rx sc g_X9_settle 4 (fe_X9_settle_6 b w q t1) (wd b w wl H0 ts, kn) o h') : Rx sc g_X9_settle 4 ((44, [(0, .ref (b + (q + 5))), (1, .int a1)], [])) (wd b w wl H0 s, kn) o h' := by
  show Rx sc g_X9_settle 4 (44, [(0, .ref (b + (q + 5))), (1, .int a1)], []) (wd b w wl H0 s, kn) o h'
  refine rx_k 2 (6, [(1, .int (a1 + 1)), (0, .ref (b + (q + 5)))], []) (fun _ _ => rfl) ?_
  refine rx_lo am_X9_settle (lo := [(0, .ref (b + (q + 5))), (1, .int (a1 + 1))]) (List.forall_mem_cons.mpr ⟨List.mem_of_getElem? (i := 1) rfl, (List.forall_mem_cons.mpr ⟨List.mem_of_getElem? (i := 0) rfl, (fun _ h => absurd h List.not_mem_nil)⟩)⟩) rfl (hc _ _ (show (R_X9_settle_44 q s a1) = (true, ((a1 + 1), s)) from rfl) hlt rfl)
theorem nr_X9_settle_44 {q : Nat} (hq : q = 38 ∨ q = 60) {s : Sg} {a1 : Int32} (hN : NN s) : ∃ (f : Bool) (t1 : Int32) (ts : Sg), (R_X9_settle_44 q s a1) = (f, (t1, ts)) ∧ NN ts := by
  exact ⟨_, _, _, (show (R_X9_settle_44 q s a1) = (true, ((a1 + 1), s)) from rfl), hN⟩
noncomputable def B_X9_settle_6 (q : Nat) (x1 : Int32) (s : Sg) : Bool × (Int32 × Sg) := (if 20 ≤ x1 then (false, (x1, s)) else (R_X9_settle_44 q ((itr (uc2 (B_X9_settle_14 q x1)) BIG (0, s)).2) x1))
theorem b_X9_settle_6 (hP : WOK b w H0) {q : Nat} (hq : q = 38 ∨ q = 60) {s : Sg} {x1 : Int32} (o : Option Value) (h' : EH) (hN : NN s) (hv : 0 ≤ x1.toInt) (hc : ∀ (t1 : Int32) (ts : Sg), (B_X9_settle_6 q x1 s) = (true, (t1, ts)) → x1.toInt < 2147483647 → t1 = x1 + 1 → Rx sc g_X9_settle 4 (fr_X9_settle_6 b w q t1) (wd b w wl H0 ts, kn) o h') (he : ∀ (t1 : Int32) (ts : Sg), (B_X9_settle_6 q x1 s) = (false, (t1, ts)) → Rx sc g_X9_settle 4 (fe_X9_settle_6 b w q t1) (wd b w wl H0 ts, kn) o h') : Rx sc g_X9_settle 4 (fr_X9_settle_6 b w q x1) (wd b w wl H0 s, kn) o h' := by
  show Rx sc g_X9_settle 4 (6, [(0, .ref (b + (q + 5))), (1, .int x1)], []) (wd b w wl H0 s, kn) o h'
  refine rx_k 2 (9, [(0, .ref (b + (q + 5))), (1, .int x1)], [.int 20, .int x1]) (fun _ _ => rfl) ?_
  by_cases c0 : 20 ≤ x1
  · refine rx_icT rfl (bt c0) ?_
    exact rx_lo am_X9_settle (lo := []) (fun _ h => absurd h List.not_mem_nil) rfl (he _ _ (show (B_X9_settle_6 q x1 s) = (false, (x1, s)) from ((if_pos c0).trans rfl)))
  · refine rx_icF rfl (bf c0) rfl ?_
    refine rx_k 2 (14, [(2, .int 0), (0, .ref (b + (q + 5))), (1, .int x1)], []) (fun _ _ => rfl) ?_
    refine rx_lo am_X9_settle (lo := [(0, .ref (b + (q + 5))), (1, .int x1), (2, .int 0)]) (List.forall_mem_cons.mpr ⟨List.mem_of_getElem? (i := 1) rfl, (List.forall_mem_cons.mpr ⟨List.mem_of_getElem? (i := 2) rfl, (List.forall_mem_cons.mpr ⟨List.mem_of_getElem? (i := 0) rfl, (fun _ h => absurd h List.not_mem_nil)⟩)⟩)⟩) rfl ?_
    refine rx_loop2s (B := B_X9_settle_14 q x1) (fr := (fr_X9_settle_14 b w q x1)) (E := (fe_X9_settle_14 b w q x1)) (I := fun z2 zs => NN zs) (fun z2 zs oo hh9 hI9 hv9 hc9 he9 => b_X9_settle_14 hP hq (rg_c hv c0 (m := 20) (n := 20) rfl) oo hh9 hI9 hv9 hc9 he9) (fun z2 zs hz => nb_X9_settle_14 hq hz) BIG 0 s _ _ hN (by decide : (0 : Int) ≤ (0 : Int32).toInt) (le_enough (by decide : (0 : Int) ≤ (0 : Int32).toInt)) ?_
    have e9 := (show (B_X9_settle_6 q x1 s) = (R_X9_settle_44 q ((itr (uc2 (B_X9_settle_14 q x1)) BIG (0, s)).2) x1) from ((if_neg c0).trans rfl))
    exact r_X9_settle_44 hP hq (rg_c hv c0 (m := 20) (n := 20) rfl) o h' (itr_inv2 (B := B_X9_settle_14 q x1) (I := fun z2 zs => NN zs) (fun z2 zs hz => nb_X9_settle_14 hq hz) BIG 0 s hN) (rg_c hv c0 (m := 20) (n := 20) rfl).1 (lt_nle c0) (fun t1 ts e8 l8 v8 => hc t1 ts (e9.trans e8) l8 v8) (fun t1 ts e8 => he t1 ts (e9.trans e8))
theorem nb_X9_settle_6 {q : Nat} (hq : q = 38 ∨ q = 60) {x1 : Int32} {s : Sg} (hN : NN s) : ∃ (f : Bool) (t1 : Int32) (ts : Sg), (B_X9_settle_6 q x1 s) = (f, (t1, ts)) ∧ NN ts := by
  by_cases c0 : 20 ≤ x1
  · exact ⟨_, _, _, (show (B_X9_settle_6 q x1 s) = (false, (x1, s)) from ((if_pos c0).trans rfl)), hN⟩
  · rw [show (B_X9_settle_6 q x1 s) = (R_X9_settle_44 q ((itr (uc2 (B_X9_settle_14 q x1)) BIG (0, s)).2) x1) from ((if_neg c0).trans rfl)]
    exact (nr_X9_settle_44 hq (itr_inv2 (B := B_X9_settle_14 q x1) (I := fun z2 zs => NN zs) (fun z2 zs hz => nb_X9_settle_14 hq hz) BIG 0 s hN))
noncomputable def R_X9_settle_50 (q : Nat) (s : Sg) : Sg := s
theorem r_X9_settle_50 (hP : WOK b w H0) {q : Nat} (hq : q = 38 ∨ q = 60) {s : Sg} (hN : NN s) : Rx sc g_X9_settle 4 ((50, [], [])) (wd b w wl H0 s, kn) none (wd b w wl H0 (R_X9_settle_50 q s), kn) := by
  show Rx sc g_X9_settle 4 (50, [], []) (wd b w wl H0 s, kn) none (wd b w wl H0 (R_X9_settle_50 q s), kn)
  rw [(show (R_X9_settle_50 q s) = s from rfl)]
  exact rx_rv rfl
theorem nr_X9_settle_50 {q : Nat} (hq : q = 38 ∨ q = 60) {s : Sg} (hN : NN s) : NN ((R_X9_settle_50 q s)) := by
  rw [show (R_X9_settle_50 q s) = s from rfl]
  exact hN
noncomputable def D_X9_settle (q : Nat) (s : Sg) : Sg := (R_X9_settle_50 q ((itr (uc2 (B_X9_settle_6 q)) BIG (0, (D_X9_forget q s))).2))
theorem m_X9_settle (hP : WOK b w H0) {q : Nat} (hq : q = 38 ∨ q = 60) {s : Sg} (hN : NN s) : Rx sc g_X9_settle 4 ((0, [(0, .ref (b + (q + 5)))], [])) (wd b w wl H0 s, kn) none (wd b w wl H0 (D_X9_settle q s), kn) := by
  show Rx sc g_X9_settle 4 (0, [(0, .ref (b + (q + 5)))], []) (wd b w wl H0 s, kn) none (wd b w wl H0 (D_X9_settle q s), kn)
  refine rx_k 1 (1, [(0, .ref (b + (q + 5)))], [.ref (b + (q + 5))]) (fun _ _ => rfl) ?_
  refine rx_inv rfl rfl (rc_X9_forget hP hq hN) rfl rfl rfl (q_recv (wl_5 hP hq)) rfl rfl ?_
  refine rx_k 2 (6, [(1, .int 0), (0, .ref (b + (q + 5)))], []) (fun _ _ => rfl) ?_
  refine rx_lo am_X9_settle (lo := [(0, .ref (b + (q + 5))), (1, .int 0)]) (List.forall_mem_cons.mpr ⟨List.mem_of_getElem? (i := 1) rfl, (List.forall_mem_cons.mpr ⟨List.mem_of_getElem? (i := 0) rfl, (fun _ h => absurd h List.not_mem_nil)⟩)⟩) rfl ?_
  refine rx_loop2s (B := B_X9_settle_6 q) (fr := (fr_X9_settle_6 b w q)) (E := (fe_X9_settle_6 b w q)) (I := fun z1 zs => NN zs) (fun z1 zs oo hh9 hI9 hv9 hc9 he9 => b_X9_settle_6 hP hq oo hh9 hI9 hv9 hc9 he9) (fun z1 zs hz => nb_X9_settle_6 hq hz) BIG 0 (D_X9_forget q s) _ _ (nn_X9_forget hq hN) (by decide : (0 : Int) ≤ (0 : Int32).toInt) (le_enough (by decide : (0 : Int) ≤ (0 : Int32).toInt)) ?_
  rw [(show (D_X9_settle q s) = (R_X9_settle_50 q ((itr (uc2 (B_X9_settle_6 q)) BIG (0, (D_X9_forget q s))).2)) from rfl)]
  exact r_X9_settle_50 hP hq (itr_inv2 (B := B_X9_settle_6 q) (I := fun z1 zs => NN zs) (fun z1 zs hz => nb_X9_settle_6 hq hz) BIG 0 (D_X9_forget q s) (nn_X9_forget hq hN))
theorem rc_X9_settle (hP : WOK b w H0) {q : Nat} (hq : q = 38 ∨ q = 60) {s : Sg} (hN : NN s) : Rc sc 5 137 [.ref (b + (q + 5))] (wd b w wl H0 s, kn) none (wd b w wl H0 (D_X9_settle q s), kn) := rx_mc (m_X9_settle hP hq hN) rfl rfl (Nat.ble_eq_true_of_le (Nat.le_refl _)) (Nat.ble_eq_true_of_le (Nat.le_refl _))
theorem nn_X9_settle {q : Nat} (hq : q = 38 ∨ q = 60) {s : Sg} (hN : NN s) : NN (D_X9_settle q s) := by
  rw [show (D_X9_settle q s) = (R_X9_settle_50 q ((itr (uc2 (B_X9_settle_6 q)) BIG (0, (D_X9_forget q s))).2)) from rfl]
  exact (nr_X9_settle_50 hq (itr_inv2 (B := B_X9_settle_6 q) (I := fun z1 zs => NN zs) (fun z1 zs hz => nb_X9_settle_6 hq hz) BIG 0 (D_X9_forget q s) (nn_X9_forget hq hN)))
theorem fwb_X9_settle_14 {q : Nat} {a1 : Int32} {x2 : Int32} {s : Sg} {k j : Nat} (l5f8 : k ≠ q + 5 ∨ j ≠ 8) (l5f9 : k ≠ q + 5 ∨ j ≠ 9) (l6 : k ≠ q + 6) (l7 : k ≠ q + 7) (l8 : k ≠ q + 8) (l9 : k ≠ q + 9) (l10 : k ≠ q + 10) (l11 : k ≠ q + 11) : ∃ (f : Bool) (t2 : Int32) (ts : Sg), (B_X9_settle_14 q a1 x2 s) = (f, (t2, ts)) ∧ ts k j = s k j := by
  by_cases c0 : (D_X10_count q s) ≤ x2
  · exact ⟨_, _, _, (show (B_X9_settle_14 q a1 x2 s) = (false, (x2, s)) from ((if_pos c0).trans rfl)), rfl⟩
  · exact ⟨_, _, _, (show (B_X9_settle_14 q a1 x2 s) = (true, ((x2 + 1), (D_X9_weigh q s a1 (D_X10_objectAt q s x2)))) from ((if_neg c0).trans rfl)), ((fw_X9_weigh l5f8 l5f9 l6 l7 l8 l9 l10 l11).trans rfl)⟩
theorem fwr_X9_settle_44 {q : Nat} {s : Sg} {a1 : Int32} {k j : Nat} (l5f8 : k ≠ q + 5 ∨ j ≠ 8) (l5f9 : k ≠ q + 5 ∨ j ≠ 9) (l6 : k ≠ q + 6) (l7 : k ≠ q + 7) (l8 : k ≠ q + 8) (l9 : k ≠ q + 9) (l10 : k ≠ q + 10) (l11 : k ≠ q + 11) : ∃ (f : Bool) (t1 : Int32) (ts : Sg), (R_X9_settle_44 q s a1) = (f, (t1, ts)) ∧ ts k j = s k j := by
  exact ⟨_, _, _, (show (R_X9_settle_44 q s a1) = (true, ((a1 + 1), s)) from rfl), rfl⟩
theorem fwb_X9_settle_6 {q : Nat} {x1 : Int32} {s : Sg} {k j : Nat} (l5f8 : k ≠ q + 5 ∨ j ≠ 8) (l5f9 : k ≠ q + 5 ∨ j ≠ 9) (l6 : k ≠ q + 6) (l7 : k ≠ q + 7) (l8 : k ≠ q + 8) (l9 : k ≠ q + 9) (l10 : k ≠ q + 10) (l11 : k ≠ q + 11) : ∃ (f : Bool) (t1 : Int32) (ts : Sg), (B_X9_settle_6 q x1 s) = (f, (t1, ts)) ∧ ts k j = s k j := by
  by_cases c0 : 20 ≤ x1
  · exact ⟨_, _, _, (show (B_X9_settle_6 q x1 s) = (false, (x1, s)) from ((if_pos c0).trans rfl)), rfl⟩
  · rw [show (B_X9_settle_6 q x1 s) = (R_X9_settle_44 q ((itr (uc2 (B_X9_settle_14 q x1)) BIG (0, s)).2) x1) from ((if_neg c0).trans rfl)]
    exact (exq2t (fwr_X9_settle_44 l5f8 l5f9 l6 l7 l8 l9 l10 l11) ((itr_inv2 (B := B_X9_settle_14 q x1) (I := fun z2 zs => zs k j = s k j) (fun z2 zs hz => exq2 (fwb_X9_settle_14 l5f8 l5f9 l6 l7 l8 l9 l10 l11) hz) BIG 0 s rfl).trans rfl))
theorem fwr_X9_settle_50 {q : Nat} {s : Sg} {k j : Nat} (l5f8 : k ≠ q + 5 ∨ j ≠ 8) (l5f9 : k ≠ q + 5 ∨ j ≠ 9) (l6 : k ≠ q + 6) (l7 : k ≠ q + 7) (l8 : k ≠ q + 8) (l9 : k ≠ q + 9) (l10 : k ≠ q + 10) (l11 : k ≠ q + 11) : (R_X9_settle_50 q s) k j = s k j := by
  rw [show (R_X9_settle_50 q s) = s from rfl]
  first | done | exact rfl
theorem fw_X9_settle {q : Nat} {s : Sg} {k j : Nat} (l5f8 : k ≠ q + 5 ∨ j ≠ 8) (l5f9 : k ≠ q + 5 ∨ j ≠ 9) (l6 : k ≠ q + 6) (l7 : k ≠ q + 7) (l8 : k ≠ q + 8) (l9 : k ≠ q + 9) (l10 : k ≠ q + 10) (l11 : k ≠ q + 11) : (D_X9_settle q s) k j = s k j := by
  rw [show (D_X9_settle q s) = (R_X9_settle_50 q ((itr (uc2 (B_X9_settle_6 q)) BIG (0, (D_X9_forget q s))).2)) from rfl]
  first | done | exact ((fwr_X9_settle_50 l5f8 l5f9 l6 l7 l8 l9 l10 l11).trans ((itr_inv2 (B := B_X9_settle_6 q) (I := fun z1 zs => zs k j = (D_X9_forget q s) k j) (fun z1 zs hz => exq2 (fwb_X9_settle_6 l5f8 l5f9 l6 l7 l8 l9 l10 l11) hz) BIG 0 (D_X9_forget q s) rfl).trans ((fw_X9_forget l5f8 l5f9 l6 l7 l8 l9).trans rfl)))
-- LinkHarbour$Reaching.forget
def fr_X7_forget_22 (b w : Nat) (q : Nat) (x1 : Int32) : EF := (22, [(0, .ref (b + (q + 12))), (1, .int x1)], [])
def fe_X7_forget_22 (b w : Nat) (q : Nat) (x1 : Int32) : EF := (41, [], [])
noncomputable def B_X7_forget_22 (q : Nat) (x1 : Int32) (s : Sg) : Bool × (Int32 × Sg) := (if 20 ≤ x1 then (false, (x1, s)) else (true, ((x1 + 1), (up s (q + 14) x1.toNatClampNeg 0))))
theorem b_X7_forget_22 (hP : WOK b w H0) {q : Nat} (hq : q = 38 ∨ q = 60) {s : Sg} {x1 : Int32} (o : Option Value) (h' : EH) (hN : NN s) (hv : 0 ≤ x1.toInt) (hc : ∀ (t1 : Int32) (ts : Sg), (B_X7_forget_22 q x1 s) = (true, (t1, ts)) → x1.toInt < 2147483647 → t1 = x1 + 1 → Rx sc g_X7_forget 0 (fr_X7_forget_22 b w q t1) (wd b w wl H0 ts, kn) o h') (he : ∀ (t1 : Int32) (ts : Sg), (B_X7_forget_22 q x1 s) = (false, (t1, ts)) → Rx sc g_X7_forget 0 (fe_X7_forget_22 b w q t1) (wd b w wl H0 ts, kn) o h') : Rx sc g_X7_forget 0 (fr_X7_forget_22 b w q x1) (wd b w wl H0 s, kn) o h' := by
  show Rx sc g_X7_forget 0 (22, [(0, .ref (b + (q + 12))), (1, .int x1)], []) (wd b w wl H0 s, kn) o h'
  refine rx_k 2 (25, [(0, .ref (b + (q + 12))), (1, .int x1)], [.int 20, .int x1]) (fun _ _ => rfl) ?_
  by_cases c0 : 20 ≤ x1
  · refine rx_icT rfl (bt c0) ?_
    exact rx_lo am_X7_forget (lo := []) (fun _ h => absurd h List.not_mem_nil) rfl (he _ _ (show (B_X7_forget_22 q x1 s) = (false, (x1, s)) from ((if_pos c0).trans rfl)))
  · refine rx_icF rfl (bf c0) rfl ?_
    refine rx_k 1 (29, [(0, .ref (b + (q + 12))), (1, .int x1)], [.ref (b + (q + 12))]) (fun _ _ => rfl) ?_
    refine rx_getf rfl rfl (wl_12 hP hq) rfl ?_
    refine rx_k 2 (34, [(0, .ref (b + (q + 12))), (1, .int x1)], [.int 0, .int x1, .ref (b + (q + 14))]) (fun _ _ => rfl) ?_
    refine rx_ist rfl rfl (wl_14 hP hq) rfl (ar_at (rg_c hv c0 (m := 20) (n := 20) rfl)) (wz_14 hP hq (rg_c hv c0 (m := 20) (n := 20) rfl)) ?_
    refine rx_k 2 (22, [(1, .int (x1 + 1)), (0, .ref (b + (q + 12)))], []) (fun _ _ => rfl) ?_
    refine rx_lo am_X7_forget (lo := [(0, .ref (b + (q + 12))), (1, .int (x1 + 1))]) (List.forall_mem_cons.mpr ⟨List.mem_of_getElem? (i := 1) rfl, (List.forall_mem_cons.mpr ⟨List.mem_of_getElem? (i := 0) rfl, (fun _ h => absurd h List.not_mem_nil)⟩)⟩) rfl (hc _ _ (show (B_X7_forget_22 q x1 s) = (true, ((x1 + 1), (up s (q + 14) x1.toNatClampNeg 0))) from ((if_neg c0).trans rfl)) (lt_nle c0) rfl)
theorem nb_X7_forget_22 {q : Nat} (hq : q = 38 ∨ q = 60) {x1 : Int32} {s : Sg} (hN : NN s) : ∃ (f : Bool) (t1 : Int32) (ts : Sg), (B_X7_forget_22 q x1 s) = (f, (t1, ts)) ∧ NN ts := by
  by_cases c0 : 20 ≤ x1
  · exact ⟨_, _, _, (show (B_X7_forget_22 q x1 s) = (false, (x1, s)) from ((if_pos c0).trans rfl)), hN⟩
  · exact ⟨_, _, _, (show (B_X7_forget_22 q x1 s) = (true, ((x1 + 1), (up s (q + 14) x1.toNatClampNeg 0))) from ((if_neg c0).trans rfl)), (nn_0 (by rcases hq with rfl | rfl <;> rfl) hN)⟩
noncomputable def R_X7_forget_41 (q : Nat) (s : Sg) : Sg := s
theorem r_X7_forget_41 (hP : WOK b w H0) {q : Nat} (hq : q = 38 ∨ q = 60) {s : Sg} (hN : NN s) : Rx sc g_X7_forget 0 ((41, [], [])) (wd b w wl H0 s, kn) none (wd b w wl H0 (R_X7_forget_41 q s), kn) := by
  show Rx sc g_X7_forget 0 (41, [], []) (wd b w wl H0 s, kn) none (wd b w wl H0 (R_X7_forget_41 q s), kn)
  rw [(show (R_X7_forget_41 q s) = s from rfl)]
  exact rx_rv rfl
theorem nr_X7_forget_41 {q : Nat} (hq : q = 38 ∨ q = 60) {s : Sg} (hN : NN s) : NN ((R_X7_forget_41 q s)) := by
  rw [show (R_X7_forget_41 q s) = s from rfl]
  exact hN
noncomputable def D_X7_forget (q : Nat) (s : Sg) : Sg := (R_X7_forget_41 q ((itr (uc2 (B_X7_forget_22 q)) BIG (0, (up (up (up (up s (q + 12) 4 0) (q + 12) 5 0) (q + 12) 6 0) (q + 12) 7 0))).2))
theorem m_X7_forget (hP : WOK b w H0) {q : Nat} (hq : q = 38 ∨ q = 60) {s : Sg} (hN : NN s) : Rx sc g_X7_forget 0 ((0, [(0, .ref (b + (q + 12)))], [])) (wd b w wl H0 s, kn) none (wd b w wl H0 (D_X7_forget q s), kn) := by
  show Rx sc g_X7_forget 0 (0, [(0, .ref (b + (q + 12)))], []) (wd b w wl H0 s, kn) none (wd b w wl H0 (D_X7_forget q s), kn)
  refine rx_k 2 (2, [(0, .ref (b + (q + 12)))], [.int 0, .ref (b + (q + 12))]) (fun _ _ => rfl) ?_
  refine rx_putf rfl rfl (wl_12 hP hq) rfl (wz_12_4 hP hq) ?_
  refine rx_k 2 (7, [(0, .ref (b + (q + 12)))], [.int 0, .ref (b + (q + 12))]) (fun _ _ => rfl) ?_
  refine rx_putf rfl rfl (wl_12 hP hq) rfl (wz_12_5 hP hq) ?_
  refine rx_k 2 (12, [(0, .ref (b + (q + 12)))], [.int 0, .ref (b + (q + 12))]) (fun _ _ => rfl) ?_
  refine rx_putf rfl rfl (wl_12 hP hq) rfl (wz_12_6 hP hq) ?_
  refine rx_k 2 (17, [(0, .ref (b + (q + 12)))], [.int 0, .ref (b + (q + 12))]) (fun _ _ => rfl) ?_
  refine rx_putf rfl rfl (wl_12 hP hq) rfl (wz_12_7 hP hq) ?_
  refine rx_k 2 (22, [(1, .int 0), (0, .ref (b + (q + 12)))], []) (fun _ _ => rfl) ?_
  refine rx_lo am_X7_forget (lo := [(0, .ref (b + (q + 12))), (1, .int 0)]) (List.forall_mem_cons.mpr ⟨List.mem_of_getElem? (i := 1) rfl, (List.forall_mem_cons.mpr ⟨List.mem_of_getElem? (i := 0) rfl, (fun _ h => absurd h List.not_mem_nil)⟩)⟩) rfl ?_
  refine rx_loop2s (B := B_X7_forget_22 q) (fr := (fr_X7_forget_22 b w q)) (E := (fe_X7_forget_22 b w q)) (I := fun z1 zs => NN zs) (fun z1 zs oo hh9 hI9 hv9 hc9 he9 => b_X7_forget_22 hP hq oo hh9 hI9 hv9 hc9 he9) (fun z1 zs hz => nb_X7_forget_22 hq hz) BIG 0 (up (up (up (up s (q + 12) 4 0) (q + 12) 5 0) (q + 12) 6 0) (q + 12) 7 0) _ _ (nn_f (by rcases hq with rfl | rfl <;> rfl) (nn_f (by rcases hq with rfl | rfl <;> rfl) (nn_f (by rcases hq with rfl | rfl <;> rfl) (nn_c (by decide) hN)))) (by decide : (0 : Int) ≤ (0 : Int32).toInt) (le_enough (by decide : (0 : Int) ≤ (0 : Int32).toInt)) ?_
  rw [(show (D_X7_forget q s) = (R_X7_forget_41 q ((itr (uc2 (B_X7_forget_22 q)) BIG (0, (up (up (up (up s (q + 12) 4 0) (q + 12) 5 0) (q + 12) 6 0) (q + 12) 7 0))).2)) from rfl)]
  exact r_X7_forget_41 hP hq (itr_inv2 (B := B_X7_forget_22 q) (I := fun z1 zs => NN zs) (fun z1 zs hz => nb_X7_forget_22 hq hz) BIG 0 (up (up (up (up s (q + 12) 4 0) (q + 12) 5 0) (q + 12) 6 0) (q + 12) 7 0) (nn_f (by rcases hq with rfl | rfl <;> rfl) (nn_f (by rcases hq with rfl | rfl <;> rfl) (nn_f (by rcases hq with rfl | rfl <;> rfl) (nn_c (by decide) hN)))))
theorem rc_X7_forget (hP : WOK b w H0) {q : Nat} (hq : q = 38 ∨ q = 60) {s : Sg} (hN : NN s) : Rc sc 1 112 [.ref (b + (q + 12))] (wd b w wl H0 s, kn) none (wd b w wl H0 (D_X7_forget q s), kn) := rx_mc (m_X7_forget hP hq hN) rfl rfl (Nat.ble_eq_true_of_le (Nat.le_refl _)) (Nat.ble_eq_true_of_le (Nat.le_refl _))
theorem nn_X7_forget {q : Nat} (hq : q = 38 ∨ q = 60) {s : Sg} (hN : NN s) : NN (D_X7_forget q s) := by
  rw [show (D_X7_forget q s) = (R_X7_forget_41 q ((itr (uc2 (B_X7_forget_22 q)) BIG (0, (up (up (up (up s (q + 12) 4 0) (q + 12) 5 0) (q + 12) 6 0) (q + 12) 7 0))).2)) from rfl]
  exact (nr_X7_forget_41 hq (itr_inv2 (B := B_X7_forget_22 q) (I := fun z1 zs => NN zs) (fun z1 zs hz => nb_X7_forget_22 hq hz) BIG 0 (up (up (up (up s (q + 12) 4 0) (q + 12) 5 0) (q + 12) 6 0) (q + 12) 7 0) (nn_f (by rcases hq with rfl | rfl <;> rfl) (nn_f (by rcases hq with rfl | rfl <;> rfl) (nn_f (by rcases hq with rfl | rfl <;> rfl) (nn_c (by decide) hN))))))
theorem fwb_X7_forget_22 {q : Nat} {x1 : Int32} {s : Sg} {k j : Nat} (l12f4 : k ≠ q + 12 ∨ j ≠ 4) (l12f5 : k ≠ q + 12 ∨ j ≠ 5) (l12f6 : k ≠ q + 12 ∨ j ≠ 6) (l12f7 : k ≠ q + 12 ∨ j ≠ 7) (l14 : k ≠ q + 14) : ∃ (f : Bool) (t1 : Int32) (ts : Sg), (B_X7_forget_22 q x1 s) = (f, (t1, ts)) ∧ ts k j = s k j := by
  by_cases c0 : 20 ≤ x1
  · exact ⟨_, _, _, (show (B_X7_forget_22 q x1 s) = (false, (x1, s)) from ((if_pos c0).trans rfl)), rfl⟩
  · exact ⟨_, _, _, (show (B_X7_forget_22 q x1 s) = (true, ((x1 + 1), (up s (q + 14) x1.toNatClampNeg 0))) from ((if_neg c0).trans rfl)), ((up_a l14).trans rfl)⟩
theorem fwr_X7_forget_41 {q : Nat} {s : Sg} {k j : Nat} (l12f4 : k ≠ q + 12 ∨ j ≠ 4) (l12f5 : k ≠ q + 12 ∨ j ≠ 5) (l12f6 : k ≠ q + 12 ∨ j ≠ 6) (l12f7 : k ≠ q + 12 ∨ j ≠ 7) (l14 : k ≠ q + 14) : (R_X7_forget_41 q s) k j = s k j := by
  rw [show (R_X7_forget_41 q s) = s from rfl]
  first | done | exact rfl
theorem fw_X7_forget {q : Nat} {s : Sg} {k j : Nat} (l12f4 : k ≠ q + 12 ∨ j ≠ 4) (l12f5 : k ≠ q + 12 ∨ j ≠ 5) (l12f6 : k ≠ q + 12 ∨ j ≠ 6) (l12f7 : k ≠ q + 12 ∨ j ≠ 7) (l14 : k ≠ q + 14) : (D_X7_forget q s) k j = s k j := by
  rw [show (D_X7_forget q s) = (R_X7_forget_41 q ((itr (uc2 (B_X7_forget_22 q)) BIG (0, (up (up (up (up s (q + 12) 4 0) (q + 12) 5 0) (q + 12) 6 0) (q + 12) 7 0))).2)) from rfl]
  first | done | exact ((fwr_X7_forget_41 l12f4 l12f5 l12f6 l12f7 l14).trans ((itr_inv2 (B := B_X7_forget_22 q) (I := fun z1 zs => zs k j = (up (up (up (up s (q + 12) 4 0) (q + 12) 5 0) (q + 12) 6 0) (q + 12) 7 0) k j) (fun z1 zs hz => exq2 (fwb_X7_forget_22 l12f4 l12f5 l12f6 l12f7 l14) hz) BIG 0 (up (up (up (up s (q + 12) 4 0) (q + 12) 5 0) (q + 12) 6 0) (q + 12) 7 0) rfl).trans ((up_f l12f7).trans ((up_f l12f6).trans ((up_f l12f5).trans ((up_f l12f4).trans rfl))))))
end DD
