theorem up_a {s : Sg} {k j i c : Nat} {v : Int32} (h : k ≠ c) : up s c i v k j = s k j := by rw [up_ne h]
theorem up_f {s : Sg} {k j i c : Nat} {v : Int32} (h : k ≠ c ∨ j ≠ i) : up s c i v k j = s k j := by
  by_cases hk : k = c
  · subst hk
    rcases h with h | h
    · exact absurd rfl h
    · rw [up_eq, upf_ne h]
  · rw [up_ne hk]
theorem rd_eq {s : Sg} {k j : Nat} {v : Int32} : (up s k j v) k j = v := by rw [up_eq, upf_eq]
theorem rd_nj {s : Sg} {k j i : Nat} {v : Int32} (h : i ≠ j) : (up s k j v) k i = s k i := by rw [up_eq, upf_ne h]
theorem rd_nk {s : Sg} {k j i k' : Nat} {v : Int32} (h : k' ≠ k) : (up s k j v) k' i = s k' i := by rw [up_ne h]
theorem i_ge0 {x : Int32} {m : Int32} {n : Int} (h : ¬ x < m) (hm : m.toInt = n) (hn : 0 ≤ n) : 0 ≤ x.toInt := by
  have h1 := Int32.le_iff_toInt_le.mp (Int32.not_lt.mp h)
  omega
theorem i_gt0 {x : Int32} {m : Int32} {n : Int} (h : ¬ x ≤ m) (hm : m.toInt = n) (hn : 0 ≤ n) : 0 ≤ x.toInt := by
  have h1 := Int32.lt_iff_toInt_lt.mp (Int32.not_le.mp h)
  omega
theorem i_gt1 {x : Int32} (h : ¬ x ≤ 0) : 1 ≤ x.toInt := by
  have h1 := Int32.lt_iff_toInt_lt.mp (Int32.not_le.mp h)
  have h2 : (0 : Int32).toInt = 0 := rfl
  omega
theorem i_lt2 {x : Int32} {m : Int32} {n : Int} (h : x < m) (hm : m.toInt = n) : x.toInt < n := by
  have h1 := Int32.lt_iff_toInt_lt.mp h
  omega
theorem i_lt3 {x : Int32} {m : Int32} {n : Int} (h : x ≤ m) (hm : m.toInt = n) : x.toInt < n + 1 := by
  have h1 := Int32.le_iff_toInt_le.mp h
  omega
theorem rg_dec {x : Int32} {n : Int} {m : Nat} (h1 : 1 ≤ x.toInt) (h2 : x.toInt < n) (hm : n ≤ m + 1) : rg (x - 1) m := by
  have h3 : (x - 1).toInt = x.toInt - 1 := by
    rw [Int32.toInt_sub]
    have h4 : (1 : Int32).toInt = 1 := rfl
    have h5 := Int32.toInt_lt x
    rw [h4, Int.bmod_eq_of_le (by omega) (by omega)]
  exact ⟨by omega, by omega⟩
theorem rg_mul {x : Int32} {n : Nat} (k : Int32) (c : Nat) (hk : k.toInt = c) (h1 : rg x n) (hn : n * c < 1000000) (hc : 0 < c) : rg (x * k) (n * c) := by
  have h := i_mul_add (x := x) (y := 0) (n := n) (m := 1) k c hk h1 ⟨by decide, by decide⟩ (by omega) hn
  rw [Int32.add_zero] at h
  exact h
theorem rg_lt31 {x : Int32} {n : Nat} (h : rg x n) (hn : n ≤ 2147483647) : x.toInt < 2147483647 := by have := h.2; omega
def UB (s : Sg) : Prop := (s 1 9).toInt ≤ 10 ∧ (s 11 8).toInt ≤ 24 ∧ (s 23 13).toInt ≤ 6
theorem UB.of {s t : Sg} (h1 : t 1 9 = s 1 9) (h2 : t 11 8 = s 11 8) (h3 : t 23 13 = s 23 13) (h : UB s) : UB t := ⟨by rw [h1]; exact h.1, by rw [h2]; exact h.2.1, by rw [h3]; exact h.2.2⟩
theorem n_lt {x : Int32} (h : 0 ≤ x.toInt) : ¬ x < 0 := fun q => by
  have h1 := Int32.lt_iff_toInt_lt.mp q
  have h2 : (0 : Int32).toInt = 0 := rfl
  omega
theorem n_le {x m : Int32} {n : Int} (h : x.toInt < n) (hm : m.toInt = n) : ¬ m ≤ x := fun q => by
  have h1 := Int32.le_iff_toInt_le.mp q
  omega
theorem q_conc {x : Int32} {lo : Int} {m : Nat} (h1 : lo ≤ x.toInt) (h2 : x.toInt < lo + m) : ∃ k, k < m ∧ x = Int32.ofInt (lo + k) := by
  refine ⟨(x.toInt - lo).toNat, by omega, ?_⟩
  rw [show lo + ((x.toInt - lo).toNat : Int) = x.toInt by omega]
  exact (Int32.ofInt_toInt x).symm
theorem q_small {x : Int32} {m : Nat} (h : rg x m) : ∃ k, k < m ∧ x = Int32.ofInt ((k : Nat) : Int) := by
  obtain ⟨k, h1, h2⟩ := q_conc (lo := 0) (m := m) h.1 (by have := h.2; omega)
  rw [Int.zero_add] at h2
  exact ⟨k, h1, h2⟩
theorem lt_nle {x m : Int32} (h : ¬ m ≤ x) : x.toInt < 2147483647 := by
  have h1 := Int32.lt_iff_toInt_lt.mp (Int32.not_le.mp h)
  have h2 := Int32.toInt_lt m
  omega
theorem lt_lt {x m : Int32} (h : x < m) : x.toInt < 2147483647 := by
  have h1 := Int32.lt_iff_toInt_lt.mp h
  have h2 := Int32.toInt_lt m
  omega
theorem lt_le {x m : Int32} {n : Int} (h : x ≤ m) (hm : m.toInt = n) (hn : n < 2147483647) : x.toInt < 2147483647 := by
  have h1 := Int32.le_iff_toInt_le.mp h
  omega
theorem big_ex : ∃ n : Nat, n = 2147483648 := ⟨_, rfl⟩
noncomputable def BIG : Nat := Classical.choose big_ex
theorem BIG_eq : BIG = 2147483648 := Classical.choose_spec big_ex
theorem le_enough {x : Int32} (h : 0 ≤ x.toInt) : 2147483648 ≤ x.toInt + (BIG : Nat) := by rw [BIG_eq]; omega
theorem rg_d {x : Int32} {m : Int32} {n : Nat} (h1 : 0 ≤ x.toInt) (h2 : x < m) (hm : m.toInt = n) : rg x n := ⟨h1, by have := Int32.lt_iff_toInt_lt.mp h2; omega⟩
theorem rg_e {x : Int32} {m : Int32} {n : Nat} (h1 : 0 ≤ x.toInt) (h2 : x ≤ m) (hm : m.toInt + 1 = n) : rg x n := ⟨h1, by have := Int32.le_iff_toInt_le.mp h2; omega⟩
theorem rg_le {x : Int32} {n m : Nat} (h : rg x n) (hm : n ≤ m) : rg x m := ⟨h.1, by have := h.2; omega⟩
theorem rg_w {x : Int32} {n : Nat} (hW : n < 2000000) (h1 : 0 ≤ x.toInt) (h2 : ¬ Int32.ofNat n ≤ x) : rg x n := by
  refine ⟨h1, ?_⟩
  have h3 := Int32.lt_iff_toInt_lt.mp (Int32.not_le.mp h2)
  rw [Int32.toInt_ofNat_of_lt (by omega)] at h3
  exact h3
theorem rg_wl {x : Int32} {n : Nat} (hW : n < 2000000) (h1 : 0 ≤ x.toInt) (h2 : x ≤ Int32.ofNat n) : rg x (n + 1) := by
  refine ⟨h1, ?_⟩
  have h3 := Int32.le_iff_toInt_le.mp h2
  rw [Int32.toInt_ofNat_of_lt (by omega)] at h3
  omega
theorem rg_wx {x a : Int32} {n : Nat} (h1 : 0 ≤ x.toInt) (h2 : ¬ a ≤ x) (h3 : rg a (n + 1)) : rg x n := by
  refine ⟨h1, ?_⟩
  have h4 := Int32.lt_iff_toInt_lt.mp (Int32.not_le.mp h2)
  have h5 := h3.2
  omega
theorem fitz {x : Int32} {p : Prop} [Decidable p] (h : bz x = true) (hp : decide p = true := by rfl) : (ev_fit 1 (.int x) && decide p) = true := by
  rw [hp, Bool.and_true]; exact h
theorem fitb {x : Int32} (h : bz x = true) : ev_fit 1 (.int x) = true := h
theorem nn_inc {x : Int32} {n : Int} (h : 0 ≤ x.toInt) (h2 : x.toInt < n) (hn : n ≤ 2147483647) : 0 ≤ (x + 1).toInt := by
  rw [i_add1 (by omega)]; omega
section DD
variable {sc : Nat × (Nat → Int32)} {b w wl : Nat} {H0 : List EC} {kn : Nat × Nat}
-- LinkHarbour$FaultList.count
noncomputable def D_X0_count (q : Nat) (s : Sg) : Int32 := (s (q + 1) 1)
theorem m_X0_count (hP : WOK b w H0) {q : Nat} (hq : q = 38 ∨ q = 60) {s : Sg} : Rx sc g_X0_count 0 ((0, [(0, .ref (b + (q + 1)))], [])) (wd b w wl H0 s, kn) (some (.int (D_X0_count q s))) (wd b w wl H0 s, kn) := by
  show Rx sc g_X0_count 0 (0, [(0, .ref (b + (q + 1)))], []) (wd b w wl H0 s, kn) (some (.int (D_X0_count q s))) (wd b w wl H0 s, kn)
  refine rx_k 1 (1, [(0, .ref (b + (q + 1)))], [.ref (b + (q + 1))]) (fun _ _ => rfl) ?_
  refine rx_getf rfl rfl (wl_1 hP hq) rfl ?_
  rw [(show (D_X0_count q s) = (s (q + 1) 1) from rfl)]
  exact rx_ri rfl
theorem rc_X0_count (hP : WOK b w H0) {q : Nat} (hq : q = 38 ∨ q = 60) {s : Sg} : Rc sc 1 1 [.ref (b + (q + 1))] (wd b w wl H0 s, kn) (some (.int (D_X0_count q s))) (wd b w wl H0 s, kn) := rx_mc (m_X0_count hP hq) rfl rfl (Nat.ble_eq_true_of_le (Nat.le_refl _)) (Nat.ble_eq_true_of_le (Nat.le_refl _))
-- LinkHarbour$FaultList.forget
noncomputable def D_X0_forget (q : Nat) (s : Sg) : Sg := (up s (q + 1) 1 0)
theorem m_X0_forget (hP : WOK b w H0) {q : Nat} (hq : q = 38 ∨ q = 60) {s : Sg} (hN : NN s) : Rx sc g_X0_forget 0 ((0, [(0, .ref (b + (q + 1)))], [])) (wd b w wl H0 s, kn) none (wd b w wl H0 (D_X0_forget q s), kn) := by
  show Rx sc g_X0_forget 0 (0, [(0, .ref (b + (q + 1)))], []) (wd b w wl H0 s, kn) none (wd b w wl H0 (D_X0_forget q s), kn)
  refine rx_k 2 (2, [(0, .ref (b + (q + 1)))], [.int 0, .ref (b + (q + 1))]) (fun _ _ => rfl) ?_
  refine rx_putf rfl rfl (wl_1 hP hq) rfl (wz_1_1 hP hq) ?_
  rw [(show (D_X0_forget q s) = (up s (q + 1) 1 0) from rfl)]
  exact rx_rv rfl
theorem rc_X0_forget (hP : WOK b w H0) {q : Nat} (hq : q = 38 ∨ q = 60) {s : Sg} (hN : NN s) : Rc sc 1 2 [.ref (b + (q + 1))] (wd b w wl H0 s, kn) none (wd b w wl H0 (D_X0_forget q s), kn) := rx_mc (m_X0_forget hP hq hN) rfl rfl (Nat.ble_eq_true_of_le (Nat.le_refl _)) (Nat.ble_eq_true_of_le (Nat.le_refl _))
theorem nn_X0_forget {q : Nat} (hq : q = 38 ∨ q = 60) {s : Sg} (hN : NN s) : NN (D_X0_forget q s) := by
  rw [show (D_X0_forget q s) = (up s (q + 1) 1 0) from rfl]
  exact (nn_c (by decide) hN)
theorem fw_X0_forget {q : Nat} {s : Sg} {k j : Nat} (l1f1 : k ≠ q + 1 ∨ j ≠ 1) : (D_X0_forget q s) k j = s k j := by
  rw [show (D_X0_forget q s) = (up s (q + 1) 1 0) from rfl]
  first | done | exact ((up_f l1f1).trans rfl)
-- LinkHarbour$FaultList.add
noncomputable def D_X0_add (q : Nat) (s : Sg) (a1 : Int32) (a2 : Int32) (a3 : Int32) (a4 : Int32) : Sg := (if (s (q + 1) 1) < 405 then (up (up (up (up (up s (q + 2) ((s (q + 1) 1) * 4).toNatClampNeg a1) (q + 2) (((s (q + 1) 1) * 4) + 1).toNatClampNeg a2) (q + 2) (((s (q + 1) 1) * 4) + 2).toNatClampNeg a3) (q + 2) (((s (q + 1) 1) * 4) + 3).toNatClampNeg a4) (q + 1) 1 ((s (q + 1) 1) + 1)) else s)
theorem m_X0_add (hP : WOK b w H0) {q : Nat} (hq : q = 38 ∨ q = 60) {s : Sg} {a1 : Int32} {a2 : Int32} {a3 : Int32} {a4 : Int32} (hN : NN s) : Rx sc g_X0_add 0 ((0, [(0, .ref (b + (q + 1))), (1, .int a1), (2, .int a2), (3, .int a3), (4, .int a4)], [])) (wd b w wl H0 s, kn) none (wd b w wl H0 (D_X0_add q s a1 a2 a3 a4), kn) := by
  show Rx sc g_X0_add 0 (0, [(0, .ref (b + (q + 1))), (1, .int a1), (2, .int a2), (3, .int a3), (4, .int a4)], []) (wd b w wl H0 s, kn) none (wd b w wl H0 (D_X0_add q s a1 a2 a3 a4), kn)
  refine rx_k 1 (1, [(0, .ref (b + (q + 1))), (1, .int a1), (2, .int a2), (3, .int a3), (4, .int a4)], [.ref (b + (q + 1))]) (fun _ _ => rfl) ?_
  refine rx_getf rfl rfl (wl_1 hP hq) rfl ?_
  refine rx_k 1 (7, [(0, .ref (b + (q + 1))), (1, .int a1), (2, .int a2), (3, .int a3), (4, .int a4)], [.int 405, .int (s (q + 1) 1)]) (fun _ _ => rfl) ?_
  by_cases c0 : (s (q + 1) 1) < 405
  · refine rx_icT rfl (bt c0) ?_
    refine rx_k 1 (12, [(0, .ref (b + (q + 1))), (1, .int a1), (2, .int a2), (3, .int a3), (4, .int a4)], [.ref (b + (q + 1))]) (fun _ _ => rfl) ?_
    refine rx_getf rfl rfl (wl_1 hP hq) rfl ?_
    refine rx_k 4 (20, [(5, .int ((s (q + 1) 1) * 4)), (0, .ref (b + (q + 1))), (1, .int a1), (2, .int a2), (3, .int a3), (4, .int a4)], [.ref (b + (q + 1))]) (fun _ _ => rfl) ?_
    refine rx_getf rfl rfl (wl_1 hP hq) rfl ?_
    refine rx_k 2 (26, [(5, .int ((s (q + 1) 1) * 4)), (0, .ref (b + (q + 1))), (1, .int a1), (2, .int a2), (3, .int a3), (4, .int a4)], [.int a1, .int ((s (q + 1) 1) * 4), .ref (b + (q + 2))]) (fun _ _ => rfl) ?_
    refine rx_ist rfl rfl (wl_2 hP hq) rfl (ar_at (rg_mul 4 4 rfl (rg_d (hN (q + 1) 1 (by first | rfl | (rcases hq with rfl | rfl <;> rfl))) c0 (m := 405) (n := 405) rfl) (by decide) (by decide))) (wz_2 hP hq (rg_mul 4 4 rfl (rg_d (hN (q + 1) 1 (by first | rfl | (rcases hq with rfl | rfl <;> rfl))) c0 (m := 405) (n := 405) rfl) (by decide) (by decide))) ?_
    refine rx_k 1 (28, [(5, .int ((s (q + 1) 1) * 4)), (0, .ref (b + (q + 1))), (1, .int a1), (2, .int a2), (3, .int a3), (4, .int a4)], [.ref (b + (q + 1))]) (fun _ _ => rfl) ?_
    refine rx_getf rfl rfl (wl_1 hP hq) rfl ?_
    refine rx_k 4 (36, [(5, .int ((s (q + 1) 1) * 4)), (0, .ref (b + (q + 1))), (1, .int a1), (2, .int a2), (3, .int a3), (4, .int a4)], [.int a2, .int (((s (q + 1) 1) * 4) + 1), .ref (b + (q + 2))]) (fun _ _ => rfl) ?_
    refine rx_ist rfl rfl (wl_2 hP hq) rfl (ar_at (i_mul_add 4 4 rfl (rg_d (hN (q + 1) 1 (by first | rfl | (rcases hq with rfl | rfl <;> rfl))) c0 (m := 405) (n := 405) rfl) (m := 4) (y := 1) ⟨by decide, by decide⟩ (by decide) (by decide))) (wz_2 hP hq (i_mul_add 4 4 rfl (rg_d (hN (q + 1) 1 (by first | rfl | (rcases hq with rfl | rfl <;> rfl))) c0 (m := 405) (n := 405) rfl) (m := 4) (y := 1) ⟨by decide, by decide⟩ (by decide) (by decide))) ?_
    refine rx_k 1 (38, [(5, .int ((s (q + 1) 1) * 4)), (0, .ref (b + (q + 1))), (1, .int a1), (2, .int a2), (3, .int a3), (4, .int a4)], [.ref (b + (q + 1))]) (fun _ _ => rfl) ?_
    refine rx_getf rfl rfl (wl_1 hP hq) rfl ?_
    refine rx_k 4 (46, [(5, .int ((s (q + 1) 1) * 4)), (0, .ref (b + (q + 1))), (1, .int a1), (2, .int a2), (3, .int a3), (4, .int a4)], [.int a3, .int (((s (q + 1) 1) * 4) + 2), .ref (b + (q + 2))]) (fun _ _ => rfl) ?_
    refine rx_ist rfl rfl (wl_2 hP hq) rfl (ar_at (i_mul_add 4 4 rfl (rg_d (hN (q + 1) 1 (by first | rfl | (rcases hq with rfl | rfl <;> rfl))) c0 (m := 405) (n := 405) rfl) (m := 4) (y := 2) ⟨by decide, by decide⟩ (by decide) (by decide))) (wz_2 hP hq (i_mul_add 4 4 rfl (rg_d (hN (q + 1) 1 (by first | rfl | (rcases hq with rfl | rfl <;> rfl))) c0 (m := 405) (n := 405) rfl) (m := 4) (y := 2) ⟨by decide, by decide⟩ (by decide) (by decide))) ?_
    refine rx_k 1 (48, [(5, .int ((s (q + 1) 1) * 4)), (0, .ref (b + (q + 1))), (1, .int a1), (2, .int a2), (3, .int a3), (4, .int a4)], [.ref (b + (q + 1))]) (fun _ _ => rfl) ?_
    refine rx_getf rfl rfl (wl_1 hP hq) rfl ?_
    refine rx_k 4 (57, [(5, .int ((s (q + 1) 1) * 4)), (0, .ref (b + (q + 1))), (1, .int a1), (2, .int a2), (3, .int a3), (4, .int a4)], [.int a4, .int (((s (q + 1) 1) * 4) + 3), .ref (b + (q + 2))]) (fun _ _ => rfl) ?_
    refine rx_ist rfl rfl (wl_2 hP hq) rfl (ar_at (i_mul_add 4 4 rfl (rg_d (hN (q + 1) 1 (by first | rfl | (rcases hq with rfl | rfl <;> rfl))) c0 (m := 405) (n := 405) rfl) (m := 4) (y := 3) ⟨by decide, by decide⟩ (by decide) (by decide))) (wz_2 hP hq (i_mul_add 4 4 rfl (rg_d (hN (q + 1) 1 (by first | rfl | (rcases hq with rfl | rfl <;> rfl))) c0 (m := 405) (n := 405) rfl) (m := 4) (y := 3) ⟨by decide, by decide⟩ (by decide) (by decide))) ?_
    refine rx_k 2 (60, [(5, .int ((s (q + 1) 1) * 4)), (0, .ref (b + (q + 1))), (1, .int a1), (2, .int a2), (3, .int a3), (4, .int a4)], [.ref (b + (q + 1)), .ref (b + (q + 1))]) (fun _ _ => rfl) ?_
    refine rx_getf (v := .int (s (q + 1) 1)) rfl rfl (wl_1 hP hq) (congrArg (fun z => some (Value.int z)) ((((rd_nk (by omega)).trans (rd_nk (by omega))).trans (rd_nk (by omega))).trans (rd_nk (by omega)))) ?_
    refine rx_k 2 (65, [(5, .int ((s (q + 1) 1) * 4)), (0, .ref (b + (q + 1))), (1, .int a1), (2, .int a2), (3, .int a3), (4, .int a4)], [.int ((s (q + 1) 1) + 1), .ref (b + (q + 1))]) (fun _ _ => rfl) ?_
    refine rx_putf rfl rfl (wl_1 hP hq) rfl (wz_1_1 hP hq) ?_
    rw [(show (D_X0_add q s a1 a2 a3 a4) = (up (up (up (up (up s (q + 2) ((s (q + 1) 1) * 4).toNatClampNeg a1) (q + 2) (((s (q + 1) 1) * 4) + 1).toNatClampNeg a2) (q + 2) (((s (q + 1) 1) * 4) + 2).toNatClampNeg a3) (q + 2) (((s (q + 1) 1) * 4) + 3).toNatClampNeg a4) (q + 1) 1 ((s (q + 1) 1) + 1)) from ((if_pos c0).trans rfl))]
    exact rx_rv rfl
  · refine rx_icF rfl (bf c0) rfl ?_
    rw [(show (D_X0_add q s a1 a2 a3 a4) = s from ((if_neg c0).trans rfl))]
    exact rx_rv rfl
theorem rc_X0_add (hP : WOK b w H0) {q : Nat} (hq : q = 38 ∨ q = 60) {s : Sg} {a1 : Int32} {a2 : Int32} {a3 : Int32} {a4 : Int32} (hN : NN s) : Rc sc 1 3 [.ref (b + (q + 1)), .int a1, .int a2, .int a3, .int a4] (wd b w wl H0 s, kn) none (wd b w wl H0 (D_X0_add q s a1 a2 a3 a4), kn) := rx_mc (m_X0_add hP hq hN) rfl rfl (Nat.ble_eq_true_of_le (Nat.le_refl _)) (Nat.ble_eq_true_of_le (Nat.le_refl _))
theorem nn_X0_add {q : Nat} (hq : q = 38 ∨ q = 60) {s : Sg} {a1 : Int32} {a2 : Int32} {a3 : Int32} {a4 : Int32} (hN : NN s) : NN (D_X0_add q s a1 a2 a3 a4) := by
  by_cases c0 : (s (q + 1) 1) < 405
  · rw [show (D_X0_add q s a1 a2 a3 a4) = (up (up (up (up (up s (q + 2) ((s (q + 1) 1) * 4).toNatClampNeg a1) (q + 2) (((s (q + 1) 1) * 4) + 1).toNatClampNeg a2) (q + 2) (((s (q + 1) 1) * 4) + 2).toNatClampNeg a3) (q + 2) (((s (q + 1) 1) * 4) + 3).toNatClampNeg a4) (q + 1) 1 ((s (q + 1) 1) + 1)) from ((if_pos c0).trans rfl)]
    exact (nn_c (nn_inc (rg_d (hN (q + 1) 1 (by first | rfl | (rcases hq with rfl | rfl <;> rfl))) c0 (m := 405) (n := 405) rfl).1 (lt_lt c0) (by decide)) (nn_0 (by rcases hq with rfl | rfl <;> rfl) (nn_0 (by rcases hq with rfl | rfl <;> rfl) (nn_0 (by rcases hq with rfl | rfl <;> rfl) (nn_0 (by rcases hq with rfl | rfl <;> rfl) hN)))))
  · rw [show (D_X0_add q s a1 a2 a3 a4) = s from ((if_neg c0).trans rfl)]
    exact hN
theorem fw_X0_add {q : Nat} {s : Sg} {a1 : Int32} {a2 : Int32} {a3 : Int32} {a4 : Int32} {k j : Nat} (l1f1 : k ≠ q + 1 ∨ j ≠ 1) (l2 : k ≠ q + 2) : (D_X0_add q s a1 a2 a3 a4) k j = s k j := by
  by_cases c0 : (s (q + 1) 1) < 405
  · rw [show (D_X0_add q s a1 a2 a3 a4) = (up (up (up (up (up s (q + 2) ((s (q + 1) 1) * 4).toNatClampNeg a1) (q + 2) (((s (q + 1) 1) * 4) + 1).toNatClampNeg a2) (q + 2) (((s (q + 1) 1) * 4) + 2).toNatClampNeg a3) (q + 2) (((s (q + 1) 1) * 4) + 3).toNatClampNeg a4) (q + 1) 1 ((s (q + 1) 1) + 1)) from ((if_pos c0).trans rfl)]
    first | done | exact ((up_f l1f1).trans ((up_a l2).trans ((up_a l2).trans ((up_a l2).trans ((up_a l2).trans rfl)))))
  · rw [show (D_X0_add q s a1 a2 a3 a4) = s from ((if_neg c0).trans rfl)]
    first | done | exact rfl
-- LinkHarbour.isIn
noncomputable def D_X11_isIn (a0 : Int32) (a1 : Int32) : Int32 := (if a0 < 0 then 0 else (if a1 ≤ a0 then 0 else 1))
theorem m_X11_isIn {hh : EH} {a0 : Int32} {a1 : Int32} : Rx sc g_X11_isIn 0 ((0, [(0, .int a0), (1, .int a1)], [])) hh (some (.int (D_X11_isIn a0 a1))) hh := by
  show Rx sc g_X11_isIn 0 (0, [(0, .int a0), (1, .int a1)], []) hh (some (.int (D_X11_isIn a0 a1))) hh
  refine rx_k 1 (1, [(0, .int a0), (1, .int a1)], [.int a0]) (fun _ _ => rfl) ?_
  by_cases c0 : a0 < 0
  · refine rx_ifT rfl (bt c0) ?_
    refine rx_k 1 (14, [(0, .int a0), (1, .int a1)], [.int 0]) (fun _ _ => rfl) ?_
    rw [(show (D_X11_isIn a0 a1) = 0 from ((if_pos c0).trans rfl))]
    exact rx_ri rfl
  · refine rx_ifF rfl (bf c0) rfl ?_
    refine rx_k 2 (6, [(0, .int a0), (1, .int a1)], [.int a1, .int a0]) (fun _ _ => rfl) ?_
    by_cases c1 : a1 ≤ a0
    · refine rx_icT rfl (bt c1) ?_
      refine rx_k 1 (14, [(0, .int a0), (1, .int a1)], [.int 0]) (fun _ _ => rfl) ?_
      rw [(show (D_X11_isIn a0 a1) = 0 from ((if_neg c0).trans ((if_pos c1).trans rfl)))]
      exact rx_ri rfl
    · refine rx_icF rfl (bf c1) rfl ?_
      refine rx_k 2 (14, [(0, .int a0), (1, .int a1)], [.int 1]) (fun _ _ => rfl) ?_
      rw [(show (D_X11_isIn a0 a1) = 1 from ((if_neg c0).trans ((if_neg c1).trans rfl)))]
      exact rx_ri rfl
theorem bz_X11_isIn {a0 : Int32} {a1 : Int32} : bz (D_X11_isIn a0 a1) = true := by
  by_cases c0 : a0 < 0
  · rw [show (D_X11_isIn a0 a1) = 0 from ((if_pos c0).trans rfl)]
    exact rfl
  · by_cases c1 : a1 ≤ a0
    · rw [show (D_X11_isIn a0 a1) = 0 from ((if_neg c0).trans ((if_pos c1).trans rfl))]
      exact rfl
    · rw [show (D_X11_isIn a0 a1) = 1 from ((if_neg c0).trans ((if_neg c1).trans rfl))]
      exact rfl
theorem rc_X11_isIn {hh : EH} {a0 : Int32} {a1 : Int32} : Rc sc 1 192 [.int a0, .int a1] hh (some (.int (D_X11_isIn a0 a1))) hh := rx_mc (m_X11_isIn) rfl (bz_X11_isIn ..) (Nat.ble_eq_true_of_le (Nat.le_refl _)) (Nat.ble_eq_true_of_le (Nat.le_refl _))
theorem rg_isIn {a m : Int32} {n : Nat} (h : ¬ D_X11_isIn a m = 0) (hm : m.toInt = n) : rg a n := by
  unfold D_X11_isIn at h
  split at h <;> first | exact absurd rfl h | skip
  split at h <;> first | exact absurd rfl h | skip
  exact rg_b (by assumption) (by assumption) hm
-- LinkHarbour$FaultList.part
noncomputable def D_X0_part (q : Nat) (s : Sg) (a1 : Int32) (a2 : Int32) : Int32 := (if (D_X11_isIn a1 405) = 0 then (-1) else (if (D_X11_isIn a2 4) = 0 then (-1) else (s (q + 2) ((a1 * 4) + a2).toNatClampNeg)))
theorem m_X0_part (hP : WOK b w H0) {q : Nat} (hq : q = 38 ∨ q = 60) {s : Sg} {a1 : Int32} {a2 : Int32} : Rx sc g_X0_part 1 ((0, [(0, .ref (b + (q + 1))), (1, .int a1), (2, .int a2)], [])) (wd b w wl H0 s, kn) (some (.int (D_X0_part q s a1 a2))) (wd b w wl H0 s, kn) := by
  show Rx sc g_X0_part 1 (0, [(0, .ref (b + (q + 1))), (1, .int a1), (2, .int a2)], []) (wd b w wl H0 s, kn) (some (.int (D_X0_part q s a1 a2))) (wd b w wl H0 s, kn)
  refine rx_k 2 (4, [(0, .ref (b + (q + 1))), (1, .int a1), (2, .int a2)], [.int 405, .int a1]) (fun _ _ => rfl) ?_
  refine rx_inv rfl rfl (rc_X11_isIn) rfl rfl rfl rfl rfl rfl ?_
  by_cases c0 : (D_X11_isIn a1 405) = 0
  · refine rx_ifT rfl (bt c0) ?_
    refine rx_k 1 (32, [(0, .ref (b + (q + 1))), (1, .int a1), (2, .int a2)], [.int (-1)]) (fun _ _ => rfl) ?_
    rw [(show (D_X0_part q s a1 a2) = (-1) from ((if_pos c0).trans rfl))]
    exact rx_ri rfl
  · refine rx_ifF rfl (bf c0) rfl ?_
    refine rx_k 2 (12, [(0, .ref (b + (q + 1))), (1, .int a1), (2, .int a2)], [.int 4, .int a2]) (fun _ _ => rfl) ?_
    refine rx_inv rfl rfl (rc_X11_isIn) rfl rfl rfl rfl rfl rfl ?_
    by_cases c1 : (D_X11_isIn a2 4) = 0
    · refine rx_ifT rfl (bt c1) ?_
      refine rx_k 1 (32, [(0, .ref (b + (q + 1))), (1, .int a1), (2, .int a2)], [.int (-1)]) (fun _ _ => rfl) ?_
      rw [(show (D_X0_part q s a1 a2) = (-1) from ((if_neg c0).trans ((if_pos c1).trans rfl)))]
      exact rx_ri rfl
    · refine rx_ifF rfl (bf c1) rfl ?_
      refine rx_k 1 (19, [(0, .ref (b + (q + 1))), (1, .int a1), (2, .int a2)], [.ref (b + (q + 1))]) (fun _ _ => rfl) ?_
      refine rx_getf rfl rfl (wl_1 hP hq) rfl ?_
      refine rx_k 5 (27, [(0, .ref (b + (q + 1))), (1, .int a1), (2, .int a2)], [.int ((a1 * 4) + a2), .ref (b + (q + 2))]) (fun _ _ => rfl) ?_
      refine rx_ild rfl rfl (wl_2 hP hq) (ar_at (i_mul_add 4 4 rfl (rg_isIn c0 (m := 405) (n := 405) rfl) (rg_isIn c1 (m := 4) (n := 4) rfl) (by decide) (by decide))) ?_
      refine rx_k 1 (32, [(0, .ref (b + (q + 1))), (1, .int a1), (2, .int a2)], [.int (s (q + 2) ((a1 * 4) + a2).toNatClampNeg)]) (fun _ _ => rfl) ?_
      rw [(show (D_X0_part q s a1 a2) = (s (q + 2) ((a1 * 4) + a2).toNatClampNeg) from ((if_neg c0).trans ((if_neg c1).trans rfl)))]
      exact rx_ri rfl
theorem rc_X0_part (hP : WOK b w H0) {q : Nat} (hq : q = 38 ∨ q = 60) {s : Sg} {a1 : Int32} {a2 : Int32} : Rc sc 2 4 [.ref (b + (q + 1)), .int a1, .int a2] (wd b w wl H0 s, kn) (some (.int (D_X0_part q s a1 a2))) (wd b w wl H0 s, kn) := rx_mc (m_X0_part hP hq) rfl rfl (Nat.ble_eq_true_of_le (Nat.le_refl _)) (Nat.ble_eq_true_of_le (Nat.le_refl _))
-- java/lang/Math.max
noncomputable def D_J9_max_7cf53 (a0 : Int32) (a1 : Int32) : Int32 := (if a0 < a1 then a1 else a0)
set_option maxRecDepth 100000 in
theorem m_J9_max_7cf53 {hh : EH} {a0 : Int32} {a1 : Int32} : Rx sc g_J9_max_7cf53 0 ((0, [(0, .int a0), (1, .int a1)], [])) hh (some (.int (D_J9_max_7cf53 a0 a1))) hh := by
  show Rx sc g_J9_max_7cf53 0 (0, [(0, .int a0), (1, .int a1)], []) hh (some (.int (D_J9_max_7cf53 a0 a1))) hh
  refine rx_k 2 (2, [(0, .int a0), (1, .int a1)], [.int a1, .int a0]) (fun _ _ => rfl) ?_
  by_cases c0 : a0 < a1
  · refine rx_icT rfl (bt c0) ?_
    refine rx_k 1 (10, [(0, .int a0), (1, .int a1)], [.int a1]) (fun _ _ => rfl) ?_
    rw [(show (D_J9_max_7cf53 a0 a1) = a1 from ((if_pos c0).trans rfl))]
    exact rx_ri rfl
  · refine rx_icF rfl (bf c0) rfl ?_
    refine rx_k 2 (10, [(0, .int a0), (1, .int a1)], [.int a0]) (fun _ _ => rfl) ?_
    rw [(show (D_J9_max_7cf53 a0 a1) = a0 from ((if_neg c0).trans rfl))]
    exact rx_ri rfl
theorem rc_J9_max_7cf53 {hh : EH} {a0 : Int32} {a1 : Int32} : Rc sc 1 211 [.int a0, .int a1] hh (some (.int (D_J9_max_7cf53 a0 a1))) hh := rx_mc (m_J9_max_7cf53) rfl rfl (Nat.ble_eq_true_of_le (Nat.le_refl _)) (Nat.ble_eq_true_of_le (Nat.le_refl _))
-- LinkHarbour$Image.clearUpTo
def fr_X1_clearUpTo_29 (b w : Nat) (a1 : Int32) (x2 : Int32) : EF := (29, [(0, .ref (b + 36)), (1, .int a1), (2, .int x2)], [])
def fe_X1_clearUpTo_29 (b w : Nat) (a1 : Int32) (x2 : Int32) : EF := (47, [], [])
noncomputable def B_X1_clearUpTo_29 (wl : Nat) (a1 : Int32) (x2 : Int32) (s : Sg) : Bool × (Int32 × Sg) := (if a1 ≤ x2 then (false, (x2, s)) else (true, ((x2 + 1), (up s 37 x2.toNatClampNeg 0))))
theorem b_X1_clearUpTo_29 (hP : WOK b w H0) (hW : wl < 2000000) {s : Sg} {a1 : Int32} {x2 : Int32} (h1 : rg a1 (wl + 1)) (o : Option Value) (h' : EH) (hN : NN s) (hv : 0 ≤ x2.toInt) (hc : ∀ (t2 : Int32) (ts : Sg), (B_X1_clearUpTo_29 wl a1 x2 s) = (true, (t2, ts)) → x2.toInt < 2147483647 → t2 = x2 + 1 → Rx sc g_X1_clearUpTo 1 (fr_X1_clearUpTo_29 b w a1 t2) (wd b w wl H0 ts, kn) o h') (he : ∀ (t2 : Int32) (ts : Sg), (B_X1_clearUpTo_29 wl a1 x2 s) = (false, (t2, ts)) → Rx sc g_X1_clearUpTo 1 (fe_X1_clearUpTo_29 b w a1 t2) (wd b w wl H0 ts, kn) o h') : Rx sc g_X1_clearUpTo 1 (fr_X1_clearUpTo_29 b w a1 x2) (wd b w wl H0 s, kn) o h' := by
  show Rx sc g_X1_clearUpTo 1 (29, [(0, .ref (b + 36)), (1, .int a1), (2, .int x2)], []) (wd b w wl H0 s, kn) o h'
  refine rx_k 2 (31, [(0, .ref (b + 36)), (1, .int a1), (2, .int x2)], [.int a1, .int x2]) (fun _ _ => rfl) ?_
  by_cases c0 : a1 ≤ x2
  · refine rx_icT rfl (bt c0) ?_
    exact rx_lo am_X1_clearUpTo (lo := []) (fun _ h => absurd h List.not_mem_nil) rfl (he _ _ (show (B_X1_clearUpTo_29 wl a1 x2 s) = (false, (x2, s)) from ((if_pos c0).trans rfl)))
  · refine rx_icF rfl (bf c0) rfl ?_
    refine rx_k 1 (35, [(0, .ref (b + 36)), (1, .int a1), (2, .int x2)], [.ref (b + 36)]) (fun _ _ => rfl) ?_
    refine rx_getf rfl rfl (wg_36 hP) rfl ?_
    refine rx_k 2 (40, [(0, .ref (b + 36)), (1, .int a1), (2, .int x2)], [.int 0, .int x2, .ref w]) (fun _ _ => rfl) ?_
    refine rx_ist rfl rfl (wg_37 hP) rfl (ar_at (rg_wx hv c0 h1)) (ws_37 hP (rg_wx hv c0 h1)) ?_
    refine rx_k 2 (29, [(2, .int (x2 + 1)), (0, .ref (b + 36)), (1, .int a1)], []) (fun _ _ => rfl) ?_
    refine rx_lo am_X1_clearUpTo (lo := [(0, .ref (b + 36)), (1, .int a1), (2, .int (x2 + 1))]) (List.forall_mem_cons.mpr ⟨List.mem_of_getElem? (i := 1) rfl, (List.forall_mem_cons.mpr ⟨List.mem_of_getElem? (i := 2) rfl, (List.forall_mem_cons.mpr ⟨List.mem_of_getElem? (i := 0) rfl, (fun _ h => absurd h List.not_mem_nil)⟩)⟩)⟩) rfl (hc _ _ (show (B_X1_clearUpTo_29 wl a1 x2 s) = (true, ((x2 + 1), (up s 37 x2.toNatClampNeg 0))) from ((if_neg c0).trans rfl)) (lt_nle c0) rfl)
theorem nb_X1_clearUpTo_29 {wl : Nat} {a1 : Int32} {x2 : Int32} {s : Sg} (hN : NN s) : ∃ (f : Bool) (t2 : Int32) (ts : Sg), (B_X1_clearUpTo_29 wl a1 x2 s) = (f, (t2, ts)) ∧ NN ts := by
  by_cases c0 : a1 ≤ x2
  · exact ⟨_, _, _, (show (B_X1_clearUpTo_29 wl a1 x2 s) = (false, (x2, s)) from ((if_pos c0).trans rfl)), hN⟩
  · exact ⟨_, _, _, (show (B_X1_clearUpTo_29 wl a1 x2 s) = (true, ((x2 + 1), (up s 37 x2.toNatClampNeg 0))) from ((if_neg c0).trans rfl)), (nn_0 rfl hN)⟩
noncomputable def R_X1_clearUpTo_47 (wl : Nat) (s : Sg) : Sg := s
theorem r_X1_clearUpTo_47 (hP : WOK b w H0) (hW : wl < 2000000) {s : Sg} (hN : NN s) : Rx sc g_X1_clearUpTo 1 ((47, [], [])) (wd b w wl H0 s, kn) none (wd b w wl H0 (R_X1_clearUpTo_47 wl s), kn) := by
  show Rx sc g_X1_clearUpTo 1 (47, [], []) (wd b w wl H0 s, kn) none (wd b w wl H0 (R_X1_clearUpTo_47 wl s), kn)
  rw [(show (R_X1_clearUpTo_47 wl s) = s from rfl)]
  exact rx_rv rfl
theorem nr_X1_clearUpTo_47 {wl : Nat} {s : Sg} (hN : NN s) : NN ((R_X1_clearUpTo_47 wl s)) := by
  rw [show (R_X1_clearUpTo_47 wl s) = s from rfl]
  exact hN
noncomputable def D_X1_clearUpTo (wl : Nat) (s : Sg) (a1 : Int32) : Sg := (if a1 ≤ (Int32.ofNat wl) then (R_X1_clearUpTo_47 wl ((itr (uc2 (B_X1_clearUpTo_29 wl a1)) BIG (0, s)).2)) else s)
noncomputable def T_X1_clearUpTo (wl : Nat) (s : Sg) (a1 : Int32) : Bool := (if a1 ≤ (Int32.ofNat wl) then true else false)
theorem m_X1_clearUpTo (hP : WOK b w H0) (hW : wl < 2000000) {s : Sg} {a1 : Int32} (hN : NN s) (ha1 : rg a1 2147483647) (hT : T_X1_clearUpTo wl s a1 = true) : Rx sc g_X1_clearUpTo 1 ((0, [(0, .ref (b + 36)), (1, .int a1)], [])) (wd b w wl H0 s, kn) none (wd b w wl H0 (D_X1_clearUpTo wl s a1), kn) := by
  show Rx sc g_X1_clearUpTo 1 (0, [(0, .ref (b + 36)), (1, .int a1)], []) (wd b w wl H0 s, kn) none (wd b w wl H0 (D_X1_clearUpTo wl s a1), kn)
  refine rx_k 2 (2, [(0, .ref (b + 36)), (1, .int a1)], [.ref (b + 36), .int a1]) (fun _ _ => rfl) ?_
  refine rx_getf rfl rfl (wg_36 hP) rfl ?_
  refine rx_alen rfl rfl (wg_37 hP) rfl (by rw [ar_len]) ?_
  by_cases c0 : a1 ≤ (Int32.ofNat wl)
  · refine rx_icT rfl (bt c0) ?_
    refine rx_k 2 (29, [(2, .int 0), (0, .ref (b + 36)), (1, .int a1)], []) (fun _ _ => rfl) ?_
    refine rx_lo am_X1_clearUpTo (lo := [(0, .ref (b + 36)), (1, .int a1), (2, .int 0)]) (List.forall_mem_cons.mpr ⟨List.mem_of_getElem? (i := 1) rfl, (List.forall_mem_cons.mpr ⟨List.mem_of_getElem? (i := 2) rfl, (List.forall_mem_cons.mpr ⟨List.mem_of_getElem? (i := 0) rfl, (fun _ h => absurd h List.not_mem_nil)⟩)⟩)⟩) rfl ?_
    refine rx_loop2s (B := B_X1_clearUpTo_29 wl a1) (fr := (fr_X1_clearUpTo_29 b w a1)) (E := (fe_X1_clearUpTo_29 b w a1)) (I := fun z2 zs => NN zs) (fun z2 zs oo hh9 hI9 hv9 hc9 he9 => b_X1_clearUpTo_29 hP hW (rg_wl hW ha1.1 c0) oo hh9 hI9 hv9 hc9 he9) (fun z2 zs hz => nb_X1_clearUpTo_29 hz) BIG 0 s _ _ hN (by decide : (0 : Int) ≤ (0 : Int32).toInt) (le_enough (by decide : (0 : Int) ≤ (0 : Int32).toInt)) ?_
    rw [(show (D_X1_clearUpTo wl s a1) = (R_X1_clearUpTo_47 wl ((itr (uc2 (B_X1_clearUpTo_29 wl a1)) BIG (0, s)).2)) from ((if_pos c0).trans rfl))]
    exact r_X1_clearUpTo_47 hP hW (itr_inv2 (B := B_X1_clearUpTo_29 wl a1) (I := fun z2 zs => NN zs) (fun z2 zs hz => nb_X1_clearUpTo_29 hz) BIG 0 s hN)
  · refine rx_icF rfl (bf c0) rfl ?_
    refine rx_k 4 (13, [(0, .ref (b + 36)), (1, .int a1)], [.ref (b + 36), .int 2, .int a1, .ref (b + 36)]) (fun _ _ => rfl) ?_
    refine rx_getf rfl rfl (wg_36 hP) rfl ?_
    refine rx_alen rfl rfl (wg_37 hP) rfl (by rw [ar_len]) ?_
    refine rx_k 1 (18, [(0, .ref (b + 36)), (1, .int a1)], [.int (2 * (Int32.ofNat wl)), .int a1, .ref (b + 36)]) (fun _ _ => rfl) ?_
    refine rx_inv rfl rfl (rc_J9_max_7cf53) rfl rfl rfl rfl rfl rfl ?_
    rw [(show T_X1_clearUpTo wl s a1 = false from ((if_neg c0).trans rfl))] at hT
    cases hT
theorem rc_X1_clearUpTo (hP : WOK b w H0) (hW : wl < 2000000) {s : Sg} {a1 : Int32} (hN : NN s) (ha1 : rg a1 2147483647) (hT : T_X1_clearUpTo wl s a1 = true) : Rc sc 2 6 [.ref (b + 36), .int a1] (wd b w wl H0 s, kn) none (wd b w wl H0 (D_X1_clearUpTo wl s a1), kn) := rx_mc (m_X1_clearUpTo hP hW hN ha1 hT) rfl rfl (Nat.ble_eq_true_of_le (Nat.le_refl _)) (Nat.ble_eq_true_of_le (Nat.le_refl _))
theorem fwb_X1_clearUpTo_29 {wl : Nat} {a1 : Int32} {x2 : Int32} {s : Sg} {k j : Nat} (h37 : k ≠ 37) : ∃ (f : Bool) (t2 : Int32) (ts : Sg), (B_X1_clearUpTo_29 wl a1 x2 s) = (f, (t2, ts)) ∧ ts k j = s k j := by
  by_cases c0 : a1 ≤ x2
  · exact ⟨_, _, _, (show (B_X1_clearUpTo_29 wl a1 x2 s) = (false, (x2, s)) from ((if_pos c0).trans rfl)), rfl⟩
  · exact ⟨_, _, _, (show (B_X1_clearUpTo_29 wl a1 x2 s) = (true, ((x2 + 1), (up s 37 x2.toNatClampNeg 0))) from ((if_neg c0).trans rfl)), ((up_a h37).trans rfl)⟩
theorem fwr_X1_clearUpTo_47 {wl : Nat} {s : Sg} {k j : Nat} (h37 : k ≠ 37) : (R_X1_clearUpTo_47 wl s) k j = s k j := by
  rw [show (R_X1_clearUpTo_47 wl s) = s from rfl]
  first | done | exact rfl
theorem fw_X1_clearUpTo {wl : Nat} {s : Sg} {a1 : Int32} {k j : Nat} (h37 : k ≠ 37) : (D_X1_clearUpTo wl s a1) k j = s k j := by
  by_cases c0 : a1 ≤ (Int32.ofNat wl)
  · rw [show (D_X1_clearUpTo wl s a1) = (R_X1_clearUpTo_47 wl ((itr (uc2 (B_X1_clearUpTo_29 wl a1)) BIG (0, s)).2)) from ((if_pos c0).trans rfl)]
    first | done | exact ((fwr_X1_clearUpTo_47 h37).trans ((itr_inv2 (B := B_X1_clearUpTo_29 wl a1) (I := fun z2 zs => zs k j = s k j) (fun z2 zs hz => exq2 (fwb_X1_clearUpTo_29 h37) hz) BIG 0 s rfl).trans rfl))
  · rw [show (D_X1_clearUpTo wl s a1) = s from ((if_neg c0).trans rfl)]
    first | done | exact rfl
-- LinkHarbour$Image.put
noncomputable def D_X1_put (wl : Nat) (s : Sg) (a1 : Int32) (a2 : Int32) : Sg := (if a1 < 0 then s else (if (Int32.ofNat wl) ≤ a1 then s else (up s 37 a1.toNatClampNeg a2)))
theorem m_X1_put (hP : WOK b w H0) (hW : wl < 2000000) {s : Sg} {a1 : Int32} {a2 : Int32} (hN : NN s) : Rx sc g_X1_put 0 ((0, [(0, .ref (b + 36)), (1, .int a1), (2, .int a2)], [])) (wd b w wl H0 s, kn) none (wd b w wl H0 (D_X1_put wl s a1 a2), kn) := by
  show Rx sc g_X1_put 0 (0, [(0, .ref (b + 36)), (1, .int a1), (2, .int a2)], []) (wd b w wl H0 s, kn) none (wd b w wl H0 (D_X1_put wl s a1 a2), kn)
  refine rx_k 1 (1, [(0, .ref (b + 36)), (1, .int a1), (2, .int a2)], [.int a1]) (fun _ _ => rfl) ?_
  by_cases c0 : a1 < 0
  · refine rx_ifT rfl (bt c0) ?_
    rw [(show (D_X1_put wl s a1 a2) = s from ((if_pos c0).trans rfl))]
    exact rx_rv rfl
  · refine rx_ifF rfl (bf c0) rfl ?_
    refine rx_k 2 (6, [(0, .ref (b + 36)), (1, .int a1), (2, .int a2)], [.ref (b + 36), .int a1]) (fun _ _ => rfl) ?_
    refine rx_getf rfl rfl (wg_36 hP) rfl ?_
    refine rx_alen rfl rfl (wg_37 hP) rfl (by rw [ar_len]) ?_
    by_cases c1 : (Int32.ofNat wl) ≤ a1
    · refine rx_icT rfl (bt c1) ?_
      rw [(show (D_X1_put wl s a1 a2) = s from ((if_neg c0).trans ((if_pos c1).trans rfl)))]
      exact rx_rv rfl
    · refine rx_icF rfl (bf c1) rfl ?_
      refine rx_k 1 (14, [(0, .ref (b + 36)), (1, .int a1), (2, .int a2)], [.ref (b + 36)]) (fun _ _ => rfl) ?_
      refine rx_getf rfl rfl (wg_36 hP) rfl ?_
      refine rx_k 2 (19, [(0, .ref (b + 36)), (1, .int a1), (2, .int a2)], [.int a2, .int a1, .ref w]) (fun _ _ => rfl) ?_
      refine rx_ist rfl rfl (wg_37 hP) rfl (ar_at (rg_w hW (i_ge c0 rfl) c1)) (ws_37 hP (rg_w hW (i_ge c0 rfl) c1)) ?_
      rw [(show (D_X1_put wl s a1 a2) = (up s 37 a1.toNatClampNeg a2) from ((if_neg c0).trans ((if_neg c1).trans rfl)))]
      exact rx_rv rfl
theorem rc_X1_put (hP : WOK b w H0) (hW : wl < 2000000) {s : Sg} {a1 : Int32} {a2 : Int32} (hN : NN s) : Rc sc 1 7 [.ref (b + 36), .int a1, .int a2] (wd b w wl H0 s, kn) none (wd b w wl H0 (D_X1_put wl s a1 a2), kn) := rx_mc (m_X1_put hP hW hN) rfl rfl (Nat.ble_eq_true_of_le (Nat.le_refl _)) (Nat.ble_eq_true_of_le (Nat.le_refl _))
theorem nn_X1_put {wl : Nat} {s : Sg} {a1 : Int32} {a2 : Int32} (hN : NN s) : NN (D_X1_put wl s a1 a2) := by
  by_cases c0 : a1 < 0
  · rw [show (D_X1_put wl s a1 a2) = s from ((if_pos c0).trans rfl)]
    exact hN
  · by_cases c1 : (Int32.ofNat wl) ≤ a1
    · rw [show (D_X1_put wl s a1 a2) = s from ((if_neg c0).trans ((if_pos c1).trans rfl))]
      exact hN
    · rw [show (D_X1_put wl s a1 a2) = (up s 37 a1.toNatClampNeg a2) from ((if_neg c0).trans ((if_neg c1).trans rfl))]
      exact (nn_0 rfl hN)
theorem fw_X1_put {wl : Nat} {s : Sg} {a1 : Int32} {a2 : Int32} {k j : Nat} (h37 : k ≠ 37) : (D_X1_put wl s a1 a2) k j = s k j := by
  by_cases c0 : a1 < 0
  · rw [show (D_X1_put wl s a1 a2) = s from ((if_pos c0).trans rfl)]
    first | done | exact rfl
  · by_cases c1 : (Int32.ofNat wl) ≤ a1
    · rw [show (D_X1_put wl s a1 a2) = s from ((if_neg c0).trans ((if_pos c1).trans rfl))]
      first | done | exact rfl
    · rw [show (D_X1_put wl s a1 a2) = (up s 37 a1.toNatClampNeg a2) from ((if_neg c0).trans ((if_neg c1).trans rfl))]
      first | done | exact ((up_a h37).trans rfl)
-- LinkHarbour$Image.read
noncomputable def D_X1_read (wl : Nat) (s : Sg) (a1 : Int32) : Int32 := (if a1 < 0 then 0 else (if (Int32.ofNat wl) ≤ a1 then 0 else (s 37 a1.toNatClampNeg)))
theorem m_X1_read (hP : WOK b w H0) (hW : wl < 2000000) {s : Sg} {a1 : Int32} : Rx sc g_X1_read 0 ((0, [(0, .ref (b + 36)), (1, .int a1)], [])) (wd b w wl H0 s, kn) (some (.int (D_X1_read wl s a1))) (wd b w wl H0 s, kn) := by
  show Rx sc g_X1_read 0 (0, [(0, .ref (b + 36)), (1, .int a1)], []) (wd b w wl H0 s, kn) (some (.int (D_X1_read wl s a1))) (wd b w wl H0 s, kn)
  refine rx_k 1 (1, [(0, .ref (b + 36)), (1, .int a1)], [.int a1]) (fun _ _ => rfl) ?_
  by_cases c0 : a1 < 0
  · refine rx_ifT rfl (bt c0) ?_
    refine rx_k 1 (23, [(0, .ref (b + 36)), (1, .int a1)], [.int 0]) (fun _ _ => rfl) ?_
    rw [(show (D_X1_read wl s a1) = 0 from ((if_pos c0).trans rfl))]
    exact rx_ri rfl
  · refine rx_ifF rfl (bf c0) rfl ?_
    refine rx_k 2 (6, [(0, .ref (b + 36)), (1, .int a1)], [.ref (b + 36), .int a1]) (fun _ _ => rfl) ?_
    refine rx_getf rfl rfl (wg_36 hP) rfl ?_
    refine rx_alen rfl rfl (wg_37 hP) rfl (by rw [ar_len]) ?_
    by_cases c1 : (Int32.ofNat wl) ≤ a1
    · refine rx_icT rfl (bt c1) ?_
      refine rx_k 1 (23, [(0, .ref (b + 36)), (1, .int a1)], [.int 0]) (fun _ _ => rfl) ?_
      rw [(show (D_X1_read wl s a1) = 0 from ((if_neg c0).trans ((if_pos c1).trans rfl)))]
      exact rx_ri rfl
    · refine rx_icF rfl (bf c1) rfl ?_
      refine rx_k 1 (14, [(0, .ref (b + 36)), (1, .int a1)], [.ref (b + 36)]) (fun _ _ => rfl) ?_
      refine rx_getf rfl rfl (wg_36 hP) rfl ?_
      refine rx_k 1 (18, [(0, .ref (b + 36)), (1, .int a1)], [.int a1, .ref w]) (fun _ _ => rfl) ?_
      refine rx_ild rfl rfl (wg_37 hP) (ar_at (rg_w hW (i_ge c0 rfl) c1)) ?_
      refine rx_k 1 (23, [(0, .ref (b + 36)), (1, .int a1)], [.int (s 37 a1.toNatClampNeg)]) (fun _ _ => rfl) ?_
      rw [(show (D_X1_read wl s a1) = (s 37 a1.toNatClampNeg) from ((if_neg c0).trans ((if_neg c1).trans rfl)))]
      exact rx_ri rfl
theorem rc_X1_read (hP : WOK b w H0) (hW : wl < 2000000) {s : Sg} {a1 : Int32} : Rc sc 1 8 [.ref (b + 36), .int a1] (wd b w wl H0 s, kn) (some (.int (D_X1_read wl s a1))) (wd b w wl H0 s, kn) := rx_mc (m_X1_read hP hW) rfl rfl (Nat.ble_eq_true_of_le (Nat.le_refl _)) (Nat.ble_eq_true_of_le (Nat.le_refl _))
-- LinkHarbour$ItemRow.count
noncomputable def D_X2_count (s : Sg) : Int32 := (s 20 2)
theorem m_X2_count (hP : WOK b w H0) {s : Sg} : Rx sc g_X2_count 0 ((0, [(0, .ref (b + 20))], [])) (wd b w wl H0 s, kn) (some (.int (D_X2_count s))) (wd b w wl H0 s, kn) := by
  show Rx sc g_X2_count 0 (0, [(0, .ref (b + 20))], []) (wd b w wl H0 s, kn) (some (.int (D_X2_count s))) (wd b w wl H0 s, kn)
  refine rx_k 1 (1, [(0, .ref (b + 20))], [.ref (b + 20)]) (fun _ _ => rfl) ?_
  refine rx_getf rfl rfl (wg_20 hP) rfl ?_
  rw [(show (D_X2_count s) = (s 20 2) from rfl)]
  exact rx_ri rfl
theorem rc_X2_count (hP : WOK b w H0) {s : Sg} : Rc sc 1 10 [.ref (b + 20)] (wd b w wl H0 s, kn) (some (.int (D_X2_count s))) (wd b w wl H0 s, kn) := rx_mc (m_X2_count hP) rfl rfl (Nat.ble_eq_true_of_le (Nat.le_refl _)) (Nat.ble_eq_true_of_le (Nat.le_refl _))
-- LinkHarbour$ItemRow.isFull
noncomputable def D_X2_isFull (s : Sg) : Int32 := (if (s 20 2) < 8 then 0 else 1)
theorem m_X2_isFull (hP : WOK b w H0) {s : Sg} : Rx sc g_X2_isFull 0 ((0, [(0, .ref (b + 20))], [])) (wd b w wl H0 s, kn) (some (.int (D_X2_isFull s))) (wd b w wl H0 s, kn) := by
  show Rx sc g_X2_isFull 0 (0, [(0, .ref (b + 20))], []) (wd b w wl H0 s, kn) (some (.int (D_X2_isFull s))) (wd b w wl H0 s, kn)
  refine rx_k 1 (1, [(0, .ref (b + 20))], [.ref (b + 20)]) (fun _ _ => rfl) ?_
  refine rx_getf rfl rfl (wg_20 hP) rfl ?_
  refine rx_k 1 (6, [(0, .ref (b + 20))], [.int 8, .int (s 20 2)]) (fun _ _ => rfl) ?_
  by_cases c0 : (s 20 2) < 8
  · refine rx_icT rfl (bt c0) ?_
    refine rx_k 1 (14, [(0, .ref (b + 20))], [.int 0]) (fun _ _ => rfl) ?_
    rw [(show (D_X2_isFull s) = 0 from ((if_pos c0).trans rfl))]
    exact rx_ri rfl
  · refine rx_icF rfl (bf c0) rfl ?_
    refine rx_k 2 (14, [(0, .ref (b + 20))], [.int 1]) (fun _ _ => rfl) ?_
    rw [(show (D_X2_isFull s) = 1 from ((if_neg c0).trans rfl))]
    exact rx_ri rfl
theorem bz_X2_isFull {s : Sg} : bz (D_X2_isFull s) = true := by
  by_cases c0 : (s 20 2) < 8
  · rw [show (D_X2_isFull s) = 0 from ((if_pos c0).trans rfl)]
    exact rfl
  · rw [show (D_X2_isFull s) = 1 from ((if_neg c0).trans rfl)]
    exact rfl
theorem rc_X2_isFull (hP : WOK b w H0) {s : Sg} : Rc sc 1 11 [.ref (b + 20)] (wd b w wl H0 s, kn) (some (.int (D_X2_isFull s))) (wd b w wl H0 s, kn) := rx_mc (m_X2_isFull hP) rfl (bz_X2_isFull ..) (Nat.ble_eq_true_of_le (Nat.le_refl _)) (Nat.ble_eq_true_of_le (Nat.le_refl _))
theorem nf_X2_isFull {s : Sg} (h : D_X2_isFull s = 0) : ¬ 8 ≤ s 20 2 := by
  unfold D_X2_isFull at h
  split at h
  · exact Int32.not_le.mpr (by assumption)
  · cases h
-- LinkHarbour$ItemRow.add
noncomputable def D_X2_add (s : Sg) (a1 : Int32) (a2 : Int32) : Int32 × Sg := (if (D_X2_isFull s) = 0 then ((((s 20 2) + 1) - 1), (up (up (up s 21 (s 20 2).toNatClampNeg a1) 22 (s 20 2).toNatClampNeg a2) 20 2 ((s 20 2) + 1))) else ((-1), s))
theorem m_X2_add (hP : WOK b w H0) {s : Sg} {a1 : Int32} {a2 : Int32} (hN : NN s) : Rx sc g_X2_add 1 ((0, [(0, .ref (b + 20)), (1, .int a1), (2, .int a2)], [])) (wd b w wl H0 s, kn) (some (.int (D_X2_add s a1 a2).1)) (wd b w wl H0 (D_X2_add s a1 a2).2, kn) := by
  show Rx sc g_X2_add 1 (0, [(0, .ref (b + 20)), (1, .int a1), (2, .int a2)], []) (wd b w wl H0 s, kn) (some (.int (D_X2_add s a1 a2).1)) (wd b w wl H0 (D_X2_add s a1 a2).2, kn)
  refine rx_k 1 (1, [(0, .ref (b + 20)), (1, .int a1), (2, .int a2)], [.ref (b + 20)]) (fun _ _ => rfl) ?_
  refine rx_inv rfl rfl (rc_X2_isFull hP) rfl rfl rfl (q_recv (wg_20 hP)) rfl rfl ?_
  by_cases c0 : (D_X2_isFull s) = 0
  · refine rx_ifT rfl (bt c0) ?_
    refine rx_k 1 (10, [(0, .ref (b + 20)), (1, .int a1), (2, .int a2)], [.ref (b + 20)]) (fun _ _ => rfl) ?_
    refine rx_getf rfl rfl (wg_20 hP) rfl ?_
    refine rx_k 1 (14, [(0, .ref (b + 20)), (1, .int a1), (2, .int a2)], [.ref (b + 20), .ref (b + 21)]) (fun _ _ => rfl) ?_
    refine rx_getf rfl rfl (wg_20 hP) rfl ?_
    refine rx_k 1 (18, [(0, .ref (b + 20)), (1, .int a1), (2, .int a2)], [.int a1, .int (s 20 2), .ref (b + 21)]) (fun _ _ => rfl) ?_
    refine rx_ist rfl rfl (wg_21 hP) rfl (ar_at (rg_c (hN 20 2 rfl) (nf_X2_isFull c0) (m := 8) (n := 8) rfl)) (ws_21 hP (rg_c (hN 20 2 rfl) (nf_X2_isFull c0) (m := 8) (n := 8) rfl)) ?_
    refine rx_k 1 (20, [(0, .ref (b + 20)), (1, .int a1), (2, .int a2)], [.ref (b + 20)]) (fun _ _ => rfl) ?_
    refine rx_getf rfl rfl (wg_20 hP) rfl ?_
    refine rx_k 1 (24, [(0, .ref (b + 20)), (1, .int a1), (2, .int a2)], [.ref (b + 20), .ref (b + 22)]) (fun _ _ => rfl) ?_
    refine rx_getf (v := .int (s 20 2)) rfl rfl (wg_20 hP) (congrArg (fun z => some (Value.int z)) (rd_nk (by decide))) ?_
    refine rx_k 1 (28, [(0, .ref (b + 20)), (1, .int a1), (2, .int a2)], [.int a2, .int (s 20 2), .ref (b + 22)]) (fun _ _ => rfl) ?_
    refine rx_ist rfl rfl (wg_22 hP) rfl (ar_at (rg_c (hN 20 2 rfl) (nf_X2_isFull c0) (m := 8) (n := 8) rfl)) (ws_22 hP (rg_c (hN 20 2 rfl) (nf_X2_isFull c0) (m := 8) (n := 8) rfl)) ?_
    refine rx_k 2 (31, [(0, .ref (b + 20)), (1, .int a1), (2, .int a2)], [.ref (b + 20), .ref (b + 20)]) (fun _ _ => rfl) ?_
    refine rx_getf (v := .int (s 20 2)) rfl rfl (wg_20 hP) (congrArg (fun z => some (Value.int z)) ((rd_nk (by decide)).trans (rd_nk (by decide)))) ?_
    refine rx_k 2 (36, [(0, .ref (b + 20)), (1, .int a1), (2, .int a2)], [.int ((s 20 2) + 1), .ref (b + 20)]) (fun _ _ => rfl) ?_
    refine rx_putf rfl rfl (wg_20 hP) rfl (ws_20_2 hP) ?_
    refine rx_k 1 (40, [(0, .ref (b + 20)), (1, .int a1), (2, .int a2)], [.ref (b + 20)]) (fun _ _ => rfl) ?_
    refine rx_getf (v := .int ((s 20 2) + 1)) rfl rfl (wg_20 hP) (congrArg (fun z => some (Value.int z)) rd_eq) ?_
    refine rx_k 2 (45, [(0, .ref (b + 20)), (1, .int a1), (2, .int a2)], [.int (((s 20 2) + 1) - 1)]) (fun _ _ => rfl) ?_
    rw [(show (D_X2_add s a1 a2) = ((((s 20 2) + 1) - 1), (up (up (up s 21 (s 20 2).toNatClampNeg a1) 22 (s 20 2).toNatClampNeg a2) 20 2 ((s 20 2) + 1))) from ((if_pos c0).trans rfl))]
    exact rx_ri rfl
  · refine rx_ifF rfl (bf c0) rfl ?_
    refine rx_k 1 (8, [(0, .ref (b + 20)), (1, .int a1), (2, .int a2)], [.int (-1)]) (fun _ _ => rfl) ?_
    rw [(show (D_X2_add s a1 a2) = ((-1), s) from ((if_neg c0).trans rfl))]
    exact rx_ri rfl
theorem rc_X2_add (hP : WOK b w H0) {s : Sg} {a1 : Int32} {a2 : Int32} (hN : NN s) : Rc sc 2 12 [.ref (b + 20), .int a1, .int a2] (wd b w wl H0 s, kn) (some (.int (D_X2_add s a1 a2).1)) (wd b w wl H0 (D_X2_add s a1 a2).2, kn) := rx_mc (m_X2_add hP hN) rfl rfl (Nat.ble_eq_true_of_le (Nat.le_refl _)) (Nat.ble_eq_true_of_le (Nat.le_refl _))
theorem nn_X2_add {s : Sg} {a1 : Int32} {a2 : Int32} (hN : NN s) : NN (D_X2_add s a1 a2).2 := by
  by_cases c0 : (D_X2_isFull s) = 0
  · exact pair_of (P := fun zs => NN zs) (show (D_X2_add s a1 a2) = ((((s 20 2) + 1) - 1), (up (up (up s 21 (s 20 2).toNatClampNeg a1) 22 (s 20 2).toNatClampNeg a2) 20 2 ((s 20 2) + 1))) from ((if_pos c0).trans rfl)) (nn_c (nn_inc (rg_c (hN 20 2 rfl) (nf_X2_isFull c0) (m := 8) (n := 8) rfl).1 (lt_nle (nf_X2_isFull c0)) (by decide)) (nn_0 rfl (nn_0 rfl hN)))
  · exact pair_of (P := fun zs => NN zs) (show (D_X2_add s a1 a2) = ((-1), s) from ((if_neg c0).trans rfl)) hN
theorem fw_X2_add {s : Sg} {a1 : Int32} {a2 : Int32} {k j : Nat} (h20f2 : k ≠ 20 ∨ j ≠ 2) (h21 : k ≠ 21) (h22 : k ≠ 22) : (D_X2_add s a1 a2).2 k j = s k j := by
  by_cases c0 : (D_X2_isFull s) = 0
  · exact pair_of (P := fun zs => zs k j = s k j) (show (D_X2_add s a1 a2) = ((((s 20 2) + 1) - 1), (up (up (up s 21 (s 20 2).toNatClampNeg a1) 22 (s 20 2).toNatClampNeg a2) 20 2 ((s 20 2) + 1))) from ((if_pos c0).trans rfl)) ((up_f h20f2).trans ((up_a h22).trans ((up_a h21).trans rfl)))
  · exact pair_of (P := fun zs => zs k j = s k j) (show (D_X2_add s a1 a2) = ((-1), s) from ((if_neg c0).trans rfl)) rfl
-- LinkHarbour$ItemRow.removeAll
noncomputable def D_X2_removeAll (s : Sg) : Int32 × Sg := ((s 20 2), (up s 20 2 0))
theorem m_X2_removeAll (hP : WOK b w H0) {s : Sg} (hN : NN s) : Rx sc g_X2_removeAll 0 ((0, [(0, .ref (b + 20))], [])) (wd b w wl H0 s, kn) (some (.int (D_X2_removeAll s).1)) (wd b w wl H0 (D_X2_removeAll s).2, kn) := by
  show Rx sc g_X2_removeAll 0 (0, [(0, .ref (b + 20))], []) (wd b w wl H0 s, kn) (some (.int (D_X2_removeAll s).1)) (wd b w wl H0 (D_X2_removeAll s).2, kn)
  refine rx_k 1 (1, [(0, .ref (b + 20))], [.ref (b + 20)]) (fun _ _ => rfl) ?_
  refine rx_getf rfl rfl (wg_20 hP) rfl ?_
  refine rx_k 3 (7, [(1, .int (s 20 2)), (0, .ref (b + 20))], [.int 0, .ref (b + 20)]) (fun _ _ => rfl) ?_
  refine rx_putf rfl rfl (wg_20 hP) rfl (ws_20_2 hP) ?_
  refine rx_k 1 (11, [(1, .int (s 20 2)), (0, .ref (b + 20))], [.int (s 20 2)]) (fun _ _ => rfl) ?_
  rw [(show (D_X2_removeAll s) = ((s 20 2), (up s 20 2 0)) from rfl)]
  exact rx_ri rfl
theorem rc_X2_removeAll (hP : WOK b w H0) {s : Sg} (hN : NN s) : Rc sc 1 13 [.ref (b + 20)] (wd b w wl H0 s, kn) (some (.int (D_X2_removeAll s).1)) (wd b w wl H0 (D_X2_removeAll s).2, kn) := rx_mc (m_X2_removeAll hP hN) rfl rfl (Nat.ble_eq_true_of_le (Nat.le_refl _)) (Nat.ble_eq_true_of_le (Nat.le_refl _))
theorem nn_X2_removeAll {s : Sg} (hN : NN s) : NN (D_X2_removeAll s).2 := by
  exact pair_of (P := fun zs => NN zs) (show (D_X2_removeAll s) = ((s 20 2), (up s 20 2 0)) from rfl) (nn_c (by decide) hN)
theorem fw_X2_removeAll {s : Sg} {k j : Nat} (h20f2 : k ≠ 20 ∨ j ≠ 2) : (D_X2_removeAll s).2 k j = s k j := by
  exact pair_of (P := fun zs => zs k j = s k j) (show (D_X2_removeAll s) = ((s 20 2), (up s 20 2 0)) from rfl) ((up_f h20f2).trans rfl)
-- LinkHarbour$ItemRow.hasAny
def fr_X2_hasAny_2 (b w : Nat) (a1 : Int32) (x2 : Int32) : EF := (2, [(0, .ref (b + 20)), (1, .int a1), (2, .int x2)], [])
def fe_X2_hasAny_2 (b w : Nat) (a1 : Int32) (x2 : Int32) : EF := (35, [], [])
noncomputable def B_X2_hasAny_2 (s : Sg) (a1 : Int32) (x2 : Int32) : Option (Option Int32) × (Int32) := (if (s 20 2) ≤ x2 then ((some none), x2) else (if 8 ≤ x2 then ((some none), x2) else (if ((s 21 x2.toNatClampNeg) &&& a1) = 0 then (none, (x2 + 1)) else (some (some 1), x2))))
theorem b_X2_hasAny_2 (hP : WOK b w H0) {s : Sg} {a1 : Int32} {x2 : Int32} (o : Option Value) (h' : EH) (hN : NN s) (hv : 0 ≤ x2.toInt) (hc : ∀ (t2 : Int32), (B_X2_hasAny_2 s a1 x2) = (none, t2) → x2.toInt < 2147483647 → t2 = x2 + 1 → Rx sc g_X2_hasAny 0 (fr_X2_hasAny_2 b w a1 t2) (wd b w wl H0 s, kn) o h') (he : ∀ (t2 : Int32), (B_X2_hasAny_2 s a1 x2) = (some none, t2) → Rx sc g_X2_hasAny 0 (fe_X2_hasAny_2 b w a1 t2) (wd b w wl H0 s, kn) o h') (hr : ∀ (v : Int32) (t2 : Int32), (B_X2_hasAny_2 s a1 x2) = (some (some v), t2) → o = some (.int v) ∧ h' = (wd b w wl H0 s, kn)) : Rx sc g_X2_hasAny 0 (fr_X2_hasAny_2 b w a1 x2) (wd b w wl H0 s, kn) o h' := by
  show Rx sc g_X2_hasAny 0 (2, [(0, .ref (b + 20)), (1, .int a1), (2, .int x2)], []) (wd b w wl H0 s, kn) o h'
  refine rx_k 2 (4, [(0, .ref (b + 20)), (1, .int a1), (2, .int x2)], [.ref (b + 20), .int x2]) (fun _ _ => rfl) ?_
  refine rx_getf rfl rfl (wg_20 hP) rfl ?_
  by_cases c0 : (s 20 2) ≤ x2
  · refine rx_icT rfl (bt c0) ?_
    exact rx_lo am_X2_hasAny (lo := []) (fun _ h => absurd h List.not_mem_nil) rfl (he _ (show (B_X2_hasAny_2 s a1 x2) = ((some none), x2) from ((if_pos c0).trans rfl)))
  · refine rx_icF rfl (bf c0) rfl ?_
    refine rx_k 2 (13, [(0, .ref (b + 20)), (1, .int a1), (2, .int x2)], [.int 8, .int x2]) (fun _ _ => rfl) ?_
    by_cases c1 : 8 ≤ x2
    · refine rx_icT rfl (bt c1) ?_
      exact rx_lo am_X2_hasAny (lo := []) (fun _ h => absurd h List.not_mem_nil) rfl (he _ (show (B_X2_hasAny_2 s a1 x2) = ((some none), x2) from ((if_neg c0).trans ((if_pos c1).trans rfl))))
    · refine rx_icF rfl (bf c1) rfl ?_
      refine rx_k 1 (17, [(0, .ref (b + 20)), (1, .int a1), (2, .int x2)], [.ref (b + 20)]) (fun _ _ => rfl) ?_
      refine rx_getf rfl rfl (wg_20 hP) rfl ?_
      refine rx_k 1 (21, [(0, .ref (b + 20)), (1, .int a1), (2, .int x2)], [.int x2, .ref (b + 21)]) (fun _ _ => rfl) ?_
      refine rx_ild rfl rfl (wg_21 hP) (ar_at (rg_c hv c1 (m := 8) (n := 8) rfl)) ?_
      refine rx_k 2 (24, [(0, .ref (b + 20)), (1, .int a1), (2, .int x2)], [.int ((s 21 x2.toNatClampNeg) &&& a1)]) (fun _ _ => rfl) ?_
      by_cases c2 : ((s 21 x2.toNatClampNeg) &&& a1) = 0
      · refine rx_ifT rfl (bt c2) ?_
        refine rx_k 2 (2, [(2, .int (x2 + 1)), (0, .ref (b + 20)), (1, .int a1)], []) (fun _ _ => rfl) ?_
        refine rx_lo am_X2_hasAny (lo := [(0, .ref (b + 20)), (1, .int a1), (2, .int (x2 + 1))]) (List.forall_mem_cons.mpr ⟨List.mem_of_getElem? (i := 1) rfl, (List.forall_mem_cons.mpr ⟨List.mem_of_getElem? (i := 2) rfl, (List.forall_mem_cons.mpr ⟨List.mem_of_getElem? (i := 0) rfl, (fun _ h => absurd h List.not_mem_nil)⟩)⟩)⟩) rfl (hc _ (show (B_X2_hasAny_2 s a1 x2) = (none, (x2 + 1)) from ((if_neg c0).trans ((if_neg c1).trans ((if_pos c2).trans rfl)))) (lt_nle c0) rfl)
      · refine rx_ifF rfl (bf c2) rfl ?_
        refine rx_k 1 (28, [(0, .ref (b + 20)), (1, .int a1), (2, .int x2)], [.int 1]) (fun _ _ => rfl) ?_
        obtain ⟨hr1, hr2⟩ := hr _ _ (show (B_X2_hasAny_2 s a1 x2) = (some (some 1), x2) from ((if_neg c0).trans ((if_neg c1).trans ((if_neg c2).trans rfl))))
        rw [hr1, hr2]
        exact rx_ri rfl
noncomputable def R_X2_hasAny_35 (s : Sg) : Int32 := 0
theorem r_X2_hasAny_35 (hP : WOK b w H0) {s : Sg} (hN : NN s) : Rx sc g_X2_hasAny 0 ((35, [], [])) (wd b w wl H0 s, kn) (some (.int (R_X2_hasAny_35 s))) (wd b w wl H0 s, kn) := by
  show Rx sc g_X2_hasAny 0 (35, [], []) (wd b w wl H0 s, kn) (some (.int (R_X2_hasAny_35 s))) (wd b w wl H0 s, kn)
  refine rx_k 1 (36, [], [.int 0]) (fun _ _ => rfl) ?_
  rw [(show (R_X2_hasAny_35 s) = 0 from rfl)]
  exact rx_ri rfl
noncomputable def D_X2_hasAny (s : Sg) (a1 : Int32) : Int32 := (match (itf (B_X2_hasAny_2 s a1) BIG 0) with | some v => v | none => (R_X2_hasAny_35 s))
theorem m_X2_hasAny (hP : WOK b w H0) {s : Sg} {a1 : Int32} (hN : NN s) : Rx sc g_X2_hasAny 0 ((0, [(0, .ref (b + 20)), (1, .int a1)], [])) (wd b w wl H0 s, kn) (some (.int (D_X2_hasAny s a1))) (wd b w wl H0 s, kn) := by
  show Rx sc g_X2_hasAny 0 (0, [(0, .ref (b + 20)), (1, .int a1)], []) (wd b w wl H0 s, kn) (some (.int (D_X2_hasAny s a1))) (wd b w wl H0 s, kn)
  refine rx_k 2 (2, [(2, .int 0), (0, .ref (b + 20)), (1, .int a1)], []) (fun _ _ => rfl) ?_
  refine rx_lo am_X2_hasAny (lo := [(0, .ref (b + 20)), (1, .int a1), (2, .int 0)]) (List.forall_mem_cons.mpr ⟨List.mem_of_getElem? (i := 1) rfl, (List.forall_mem_cons.mpr ⟨List.mem_of_getElem? (i := 2) rfl, (List.forall_mem_cons.mpr ⟨List.mem_of_getElem? (i := 0) rfl, (fun _ h => absurd h List.not_mem_nil)⟩)⟩)⟩) rfl ?_
  have e9 := (show (D_X2_hasAny s a1) = (match (itf (B_X2_hasAny_2 s a1) BIG 0) with | some v => v | none => (R_X2_hasAny_35 s)) from rfl)
  refine rx_loopF1 (B := B_X2_hasAny_2 s a1) (fr := (fr_X2_hasAny_2 b w a1)) (E := (fe_X2_hasAny_2 b w a1)) (hp := (wd b w wl H0 s, kn)) (fun z hv9 hc9 he9 hr9 => b_X2_hasAny_2 hP _ _ hN hv9 hc9 he9 hr9) BIG 0 (by decide : (0 : Int) ≤ (0 : Int32).toInt) (le_enough (by decide : (0 : Int) ≤ (0 : Int32).toInt)) (fun e1 y => ?_) (fun v e1 => ?_)
  · rw [e9, e1]
    exact r_X2_hasAny_35 hP hN
  · exact ⟨by rw [e9, e1], rfl⟩
theorem bz_X2_hasAny {s : Sg} {a1 : Int32} : bz (D_X2_hasAny s a1) = true := by
  unfold D_X2_hasAny
  cases h9 : (itf (B_X2_hasAny_2 s a1) BIG 0) with
  | none => rfl
  | some v =>
    refine itf_some (P := fun v => bz v = true) (fun x v e => ?_) _ _ v h9
    by_cases c0 : (s 20 2) ≤ x
    · rw [show B_X2_hasAny_2 s a1 x = ((some none), x) from (if_pos c0)] at e; cases e
    · by_cases c1 : 8 ≤ x
      · rw [show B_X2_hasAny_2 s a1 x = ((some none), x) from ((if_neg c0).trans (if_pos c1))] at e; cases e
      · by_cases c2 : ((s 21 x.toNatClampNeg) &&& a1) = 0
        · rw [show B_X2_hasAny_2 s a1 x = (none, (x + 1)) from ((if_neg c0).trans ((if_neg c1).trans (if_pos c2)))] at e; cases e
        · rw [show B_X2_hasAny_2 s a1 x = ((some (some 1)), x) from ((if_neg c0).trans ((if_neg c1).trans (if_neg c2)))] at e; cases e; rfl
theorem rc_X2_hasAny (hP : WOK b w H0) {s : Sg} {a1 : Int32} (hN : NN s) : Rc sc 1 14 [.ref (b + 20), .int a1] (wd b w wl H0 s, kn) (some (.int (D_X2_hasAny s a1))) (wd b w wl H0 s, kn) := rx_mc (m_X2_hasAny hP hN) rfl (bz_X2_hasAny ..) (Nat.ble_eq_true_of_le (Nat.le_refl _)) (Nat.ble_eq_true_of_le (Nat.le_refl _))
-- LinkHarbour.hasBit
noncomputable def D_X11_hasBit (a0 : Int32) (a1 : Int32) : Int32 := (if ((a0 >>> (a1 &&& 31)) &&& 1) = 0 then 0 else 1)
theorem m_X11_hasBit {hh : EH} {a0 : Int32} {a1 : Int32} : Rx sc g_X11_hasBit 0 ((0, [(0, .int a0), (1, .int a1)], [])) hh (some (.int (D_X11_hasBit a0 a1))) hh := by
  show Rx sc g_X11_hasBit 0 (0, [(0, .int a0), (1, .int a1)], []) hh (some (.int (D_X11_hasBit a0 a1))) hh
  refine rx_k 5 (5, [(0, .int a0), (1, .int a1)], [.int ((a0 >>> (a1 &&& 31)) &&& 1)]) (fun _ _ => rfl) ?_
  by_cases c0 : ((a0 >>> (a1 &&& 31)) &&& 1) = 0
  · refine rx_ifT rfl (bt c0) ?_
    refine rx_k 1 (13, [(0, .int a0), (1, .int a1)], [.int 0]) (fun _ _ => rfl) ?_
    rw [(show (D_X11_hasBit a0 a1) = 0 from ((if_pos c0).trans rfl))]
    exact rx_ri rfl
  · refine rx_ifF rfl (bf c0) rfl ?_
    refine rx_k 2 (13, [(0, .int a0), (1, .int a1)], [.int 1]) (fun _ _ => rfl) ?_
    rw [(show (D_X11_hasBit a0 a1) = 1 from ((if_neg c0).trans rfl))]
    exact rx_ri rfl
theorem bz_X11_hasBit {a0 : Int32} {a1 : Int32} : bz (D_X11_hasBit a0 a1) = true := by
  by_cases c0 : ((a0 >>> (a1 &&& 31)) &&& 1) = 0
  · rw [show (D_X11_hasBit a0 a1) = 0 from ((if_pos c0).trans rfl)]
    exact rfl
  · rw [show (D_X11_hasBit a0 a1) = 1 from ((if_neg c0).trans rfl)]
    exact rfl
theorem rc_X11_hasBit {hh : EH} {a0 : Int32} {a1 : Int32} : Rc sc 1 196 [.int a0, .int a1] hh (some (.int (D_X11_hasBit a0 a1))) hh := rx_mc (m_X11_hasBit) rfl (bz_X11_hasBit ..) (Nat.ble_eq_true_of_le (Nat.le_refl _)) (Nat.ble_eq_true_of_le (Nat.le_refl _))
-- LinkHarbour$ItemRow.itemOf
def fr_X2_itemOf_2 (b w : Nat) (a1 : Int32) (x2 : Int32) : EF := (2, [(0, .ref (b + 20)), (1, .int a1), (2, .int x2)], [])
def fe_X2_itemOf_2 (b w : Nat) (a1 : Int32) (x2 : Int32) : EF := (37, [], [])
noncomputable def B_X2_itemOf_2 (s : Sg) (a1 : Int32) (x2 : Int32) : Option (Option Int32) × (Int32) := (if (s 20 2) ≤ x2 then ((some none), x2) else (if 8 ≤ x2 then ((some none), x2) else (if (D_X11_hasBit (s 21 x2.toNatClampNeg) a1) = 0 then (none, (x2 + 1)) else (some (some x2), x2))))
theorem b_X2_itemOf_2 (hP : WOK b w H0) {s : Sg} {a1 : Int32} {x2 : Int32} (o : Option Value) (h' : EH) (hN : NN s) (hv : 0 ≤ x2.toInt) (hc : ∀ (t2 : Int32), (B_X2_itemOf_2 s a1 x2) = (none, t2) → x2.toInt < 2147483647 → t2 = x2 + 1 → Rx sc g_X2_itemOf 1 (fr_X2_itemOf_2 b w a1 t2) (wd b w wl H0 s, kn) o h') (he : ∀ (t2 : Int32), (B_X2_itemOf_2 s a1 x2) = (some none, t2) → Rx sc g_X2_itemOf 1 (fe_X2_itemOf_2 b w a1 t2) (wd b w wl H0 s, kn) o h') (hr : ∀ (v : Int32) (t2 : Int32), (B_X2_itemOf_2 s a1 x2) = (some (some v), t2) → o = some (.int v) ∧ h' = (wd b w wl H0 s, kn)) : Rx sc g_X2_itemOf 1 (fr_X2_itemOf_2 b w a1 x2) (wd b w wl H0 s, kn) o h' := by
  show Rx sc g_X2_itemOf 1 (2, [(0, .ref (b + 20)), (1, .int a1), (2, .int x2)], []) (wd b w wl H0 s, kn) o h'
  refine rx_k 2 (4, [(0, .ref (b + 20)), (1, .int a1), (2, .int x2)], [.ref (b + 20), .int x2]) (fun _ _ => rfl) ?_
  refine rx_getf rfl rfl (wg_20 hP) rfl ?_
  by_cases c0 : (s 20 2) ≤ x2
  · refine rx_icT rfl (bt c0) ?_
    exact rx_lo am_X2_itemOf (lo := []) (fun _ h => absurd h List.not_mem_nil) rfl (he _ (show (B_X2_itemOf_2 s a1 x2) = ((some none), x2) from ((if_pos c0).trans rfl)))
  · refine rx_icF rfl (bf c0) rfl ?_
    refine rx_k 2 (13, [(0, .ref (b + 20)), (1, .int a1), (2, .int x2)], [.int 8, .int x2]) (fun _ _ => rfl) ?_
    by_cases c1 : 8 ≤ x2
    · refine rx_icT rfl (bt c1) ?_
      exact rx_lo am_X2_itemOf (lo := []) (fun _ h => absurd h List.not_mem_nil) rfl (he _ (show (B_X2_itemOf_2 s a1 x2) = ((some none), x2) from ((if_neg c0).trans ((if_pos c1).trans rfl))))
    · refine rx_icF rfl (bf c1) rfl ?_
      refine rx_k 1 (17, [(0, .ref (b + 20)), (1, .int a1), (2, .int x2)], [.ref (b + 20)]) (fun _ _ => rfl) ?_
      refine rx_getf rfl rfl (wg_20 hP) rfl ?_
      refine rx_k 1 (21, [(0, .ref (b + 20)), (1, .int a1), (2, .int x2)], [.int x2, .ref (b + 21)]) (fun _ _ => rfl) ?_
      refine rx_ild rfl rfl (wg_21 hP) (ar_at (rg_c hv c1 (m := 8) (n := 8) rfl)) ?_
      refine rx_k 1 (23, [(0, .ref (b + 20)), (1, .int a1), (2, .int x2)], [.int a1, .int (s 21 x2.toNatClampNeg)]) (fun _ _ => rfl) ?_
      refine rx_inv rfl rfl (rc_X11_hasBit) rfl rfl rfl rfl rfl rfl ?_
      by_cases c2 : (D_X11_hasBit (s 21 x2.toNatClampNeg) a1) = 0
      · refine rx_ifT rfl (bt c2) ?_
        refine rx_k 2 (2, [(2, .int (x2 + 1)), (0, .ref (b + 20)), (1, .int a1)], []) (fun _ _ => rfl) ?_
        refine rx_lo am_X2_itemOf (lo := [(0, .ref (b + 20)), (1, .int a1), (2, .int (x2 + 1))]) (List.forall_mem_cons.mpr ⟨List.mem_of_getElem? (i := 1) rfl, (List.forall_mem_cons.mpr ⟨List.mem_of_getElem? (i := 2) rfl, (List.forall_mem_cons.mpr ⟨List.mem_of_getElem? (i := 0) rfl, (fun _ h => absurd h List.not_mem_nil)⟩)⟩)⟩) rfl (hc _ (show (B_X2_itemOf_2 s a1 x2) = (none, (x2 + 1)) from ((if_neg c0).trans ((if_neg c1).trans ((if_pos c2).trans rfl)))) (lt_nle c0) rfl)
      · refine rx_ifF rfl (bf c2) rfl ?_
        refine rx_k 1 (30, [(0, .ref (b + 20)), (1, .int a1), (2, .int x2)], [.int x2]) (fun _ _ => rfl) ?_
        obtain ⟨hr1, hr2⟩ := hr _ _ (show (B_X2_itemOf_2 s a1 x2) = (some (some x2), x2) from ((if_neg c0).trans ((if_neg c1).trans ((if_neg c2).trans rfl))))
        rw [hr1, hr2]
        exact rx_ri rfl
noncomputable def R_X2_itemOf_37 (s : Sg) : Int32 := (-1)
theorem r_X2_itemOf_37 (hP : WOK b w H0) {s : Sg} (hN : NN s) : Rx sc g_X2_itemOf 1 ((37, [], [])) (wd b w wl H0 s, kn) (some (.int (R_X2_itemOf_37 s))) (wd b w wl H0 s, kn) := by
  show Rx sc g_X2_itemOf 1 (37, [], []) (wd b w wl H0 s, kn) (some (.int (R_X2_itemOf_37 s))) (wd b w wl H0 s, kn)
  refine rx_k 1 (38, [], [.int (-1)]) (fun _ _ => rfl) ?_
  rw [(show (R_X2_itemOf_37 s) = (-1) from rfl)]
  exact rx_ri rfl
noncomputable def D_X2_itemOf (s : Sg) (a1 : Int32) : Int32 := (match (itf (B_X2_itemOf_2 s a1) BIG 0) with | some v => v | none => (R_X2_itemOf_37 s))
theorem m_X2_itemOf (hP : WOK b w H0) {s : Sg} {a1 : Int32} (hN : NN s) : Rx sc g_X2_itemOf 1 ((0, [(0, .ref (b + 20)), (1, .int a1)], [])) (wd b w wl H0 s, kn) (some (.int (D_X2_itemOf s a1))) (wd b w wl H0 s, kn) := by
  show Rx sc g_X2_itemOf 1 (0, [(0, .ref (b + 20)), (1, .int a1)], []) (wd b w wl H0 s, kn) (some (.int (D_X2_itemOf s a1))) (wd b w wl H0 s, kn)
  refine rx_k 2 (2, [(2, .int 0), (0, .ref (b + 20)), (1, .int a1)], []) (fun _ _ => rfl) ?_
  refine rx_lo am_X2_itemOf (lo := [(0, .ref (b + 20)), (1, .int a1), (2, .int 0)]) (List.forall_mem_cons.mpr ⟨List.mem_of_getElem? (i := 1) rfl, (List.forall_mem_cons.mpr ⟨List.mem_of_getElem? (i := 2) rfl, (List.forall_mem_cons.mpr ⟨List.mem_of_getElem? (i := 0) rfl, (fun _ h => absurd h List.not_mem_nil)⟩)⟩)⟩) rfl ?_
  have e9 := (show (D_X2_itemOf s a1) = (match (itf (B_X2_itemOf_2 s a1) BIG 0) with | some v => v | none => (R_X2_itemOf_37 s)) from rfl)
  refine rx_loopF1 (B := B_X2_itemOf_2 s a1) (fr := (fr_X2_itemOf_2 b w a1)) (E := (fe_X2_itemOf_2 b w a1)) (hp := (wd b w wl H0 s, kn)) (fun z hv9 hc9 he9 hr9 => b_X2_itemOf_2 hP _ _ hN hv9 hc9 he9 hr9) BIG 0 (by decide : (0 : Int) ≤ (0 : Int32).toInt) (le_enough (by decide : (0 : Int) ≤ (0 : Int32).toInt)) (fun e1 y => ?_) (fun v e1 => ?_)
  · rw [e9, e1]
    exact r_X2_itemOf_37 hP hN
  · exact ⟨by rw [e9, e1], rfl⟩
theorem rc_X2_itemOf (hP : WOK b w H0) {s : Sg} {a1 : Int32} (hN : NN s) : Rc sc 2 15 [.ref (b + 20), .int a1] (wd b w wl H0 s, kn) (some (.int (D_X2_itemOf s a1))) (wd b w wl H0 s, kn) := rx_mc (m_X2_itemOf hP hN) rfl rfl (Nat.ble_eq_true_of_le (Nat.le_refl _)) (Nat.ble_eq_true_of_le (Nat.le_refl _))
-- LinkHarbour$ItemRow.set
noncomputable def D_X2_set (s : Sg) (a1 : Int32) : Int32 := (if a1 < 0 then 0 else (if (s 20 2) ≤ a1 then 0 else (if 8 ≤ a1 then 0 else (s 21 a1.toNatClampNeg))))
theorem m_X2_set (hP : WOK b w H0) {s : Sg} {a1 : Int32} : Rx sc g_X2_set 0 ((0, [(0, .ref (b + 20)), (1, .int a1)], [])) (wd b w wl H0 s, kn) (some (.int (D_X2_set s a1))) (wd b w wl H0 s, kn) := by
  show Rx sc g_X2_set 0 (0, [(0, .ref (b + 20)), (1, .int a1)], []) (wd b w wl H0 s, kn) (some (.int (D_X2_set s a1))) (wd b w wl H0 s, kn)
  refine rx_k 1 (1, [(0, .ref (b + 20)), (1, .int a1)], [.int a1]) (fun _ _ => rfl) ?_
  by_cases c0 : a1 < 0
  · refine rx_ifT rfl (bt c0) ?_
    refine rx_k 1 (28, [(0, .ref (b + 20)), (1, .int a1)], [.int 0]) (fun _ _ => rfl) ?_
    rw [(show (D_X2_set s a1) = 0 from ((if_pos c0).trans rfl))]
    exact rx_ri rfl
  · refine rx_ifF rfl (bf c0) rfl ?_
    refine rx_k 2 (6, [(0, .ref (b + 20)), (1, .int a1)], [.ref (b + 20), .int a1]) (fun _ _ => rfl) ?_
    refine rx_getf rfl rfl (wg_20 hP) rfl ?_
    by_cases c1 : (s 20 2) ≤ a1
    · refine rx_icT rfl (bt c1) ?_
      refine rx_k 1 (28, [(0, .ref (b + 20)), (1, .int a1)], [.int 0]) (fun _ _ => rfl) ?_
      rw [(show (D_X2_set s a1) = 0 from ((if_neg c0).trans ((if_pos c1).trans rfl)))]
      exact rx_ri rfl
    · refine rx_icF rfl (bf c1) rfl ?_
      refine rx_k 2 (15, [(0, .ref (b + 20)), (1, .int a1)], [.int 8, .int a1]) (fun _ _ => rfl) ?_
      by_cases c2 : 8 ≤ a1
      · refine rx_icT rfl (bt c2) ?_
        refine rx_k 1 (28, [(0, .ref (b + 20)), (1, .int a1)], [.int 0]) (fun _ _ => rfl) ?_
        rw [(show (D_X2_set s a1) = 0 from ((if_neg c0).trans ((if_neg c1).trans ((if_pos c2).trans rfl))))]
        exact rx_ri rfl
      · refine rx_icF rfl (bf c2) rfl ?_
        refine rx_k 1 (19, [(0, .ref (b + 20)), (1, .int a1)], [.ref (b + 20)]) (fun _ _ => rfl) ?_
        refine rx_getf rfl rfl (wg_20 hP) rfl ?_
        refine rx_k 1 (23, [(0, .ref (b + 20)), (1, .int a1)], [.int a1, .ref (b + 21)]) (fun _ _ => rfl) ?_
        refine rx_ild rfl rfl (wg_21 hP) (ar_at (rg_c (i_ge c0 rfl) c2 (m := 8) (n := 8) rfl)) ?_
        refine rx_k 1 (28, [(0, .ref (b + 20)), (1, .int a1)], [.int (s 21 a1.toNatClampNeg)]) (fun _ _ => rfl) ?_
        rw [(show (D_X2_set s a1) = (s 21 a1.toNatClampNeg) from ((if_neg c0).trans ((if_neg c1).trans ((if_neg c2).trans rfl))))]
        exact rx_ri rfl
theorem rc_X2_set (hP : WOK b w H0) {s : Sg} {a1 : Int32} : Rc sc 1 16 [.ref (b + 20), .int a1] (wd b w wl H0 s, kn) (some (.int (D_X2_set s a1))) (wd b w wl H0 s, kn) := rx_mc (m_X2_set hP) rfl rfl (Nat.ble_eq_true_of_le (Nat.le_refl _)) (Nat.ble_eq_true_of_le (Nat.le_refl _))
-- LinkHarbour$ItemRow.isPlain
noncomputable def D_X2_isPlain (s : Sg) (a1 : Int32) : Int32 := (if a1 < 0 then 0 else (if (s 20 2) ≤ a1 then 0 else (if 8 ≤ a1 then 0 else (if (s 22 a1.toNatClampNeg) = 0 then 1 else 0))))
theorem m_X2_isPlain (hP : WOK b w H0) {s : Sg} {a1 : Int32} : Rx sc g_X2_isPlain 0 ((0, [(0, .ref (b + 20)), (1, .int a1)], [])) (wd b w wl H0 s, kn) (some (.int (D_X2_isPlain s a1))) (wd b w wl H0 s, kn) := by
  show Rx sc g_X2_isPlain 0 (0, [(0, .ref (b + 20)), (1, .int a1)], []) (wd b w wl H0 s, kn) (some (.int (D_X2_isPlain s a1))) (wd b w wl H0 s, kn)
  refine rx_k 1 (1, [(0, .ref (b + 20)), (1, .int a1)], [.int a1]) (fun _ _ => rfl) ?_
  by_cases c0 : a1 < 0
  · refine rx_ifT rfl (bt c0) ?_
    refine rx_k 1 (32, [(0, .ref (b + 20)), (1, .int a1)], [.int 0]) (fun _ _ => rfl) ?_
    rw [(show (D_X2_isPlain s a1) = 0 from ((if_pos c0).trans rfl))]
    exact rx_ri rfl
  · refine rx_ifF rfl (bf c0) rfl ?_
    refine rx_k 2 (6, [(0, .ref (b + 20)), (1, .int a1)], [.ref (b + 20), .int a1]) (fun _ _ => rfl) ?_
    refine rx_getf rfl rfl (wg_20 hP) rfl ?_
    by_cases c1 : (s 20 2) ≤ a1
    · refine rx_icT rfl (bt c1) ?_
      refine rx_k 1 (32, [(0, .ref (b + 20)), (1, .int a1)], [.int 0]) (fun _ _ => rfl) ?_
      rw [(show (D_X2_isPlain s a1) = 0 from ((if_neg c0).trans ((if_pos c1).trans rfl)))]
      exact rx_ri rfl
    · refine rx_icF rfl (bf c1) rfl ?_
      refine rx_k 2 (15, [(0, .ref (b + 20)), (1, .int a1)], [.int 8, .int a1]) (fun _ _ => rfl) ?_
      by_cases c2 : 8 ≤ a1
      · refine rx_icT rfl (bt c2) ?_
        refine rx_k 1 (32, [(0, .ref (b + 20)), (1, .int a1)], [.int 0]) (fun _ _ => rfl) ?_
        rw [(show (D_X2_isPlain s a1) = 0 from ((if_neg c0).trans ((if_neg c1).trans ((if_pos c2).trans rfl))))]
        exact rx_ri rfl
      · refine rx_icF rfl (bf c2) rfl ?_
        refine rx_k 1 (19, [(0, .ref (b + 20)), (1, .int a1)], [.ref (b + 20)]) (fun _ _ => rfl) ?_
        refine rx_getf rfl rfl (wg_20 hP) rfl ?_
        refine rx_k 1 (23, [(0, .ref (b + 20)), (1, .int a1)], [.int a1, .ref (b + 22)]) (fun _ _ => rfl) ?_
        refine rx_ild rfl rfl (wg_22 hP) (ar_at (rg_c (i_ge c0 rfl) c2 (m := 8) (n := 8) rfl)) ?_
        by_cases c3 : (s 22 a1.toNatClampNeg) = 0
        · refine rx_ifF rfl (nf c3) rfl ?_
          refine rx_k 2 (32, [(0, .ref (b + 20)), (1, .int a1)], [.int 1]) (fun _ _ => rfl) ?_
          rw [(show (D_X2_isPlain s a1) = 1 from ((if_neg c0).trans ((if_neg c1).trans ((if_neg c2).trans ((if_pos c3).trans rfl)))))]
          exact rx_ri rfl
        · refine rx_ifT rfl (nt c3) ?_
          refine rx_k 1 (32, [(0, .ref (b + 20)), (1, .int a1)], [.int 0]) (fun _ _ => rfl) ?_
          rw [(show (D_X2_isPlain s a1) = 0 from ((if_neg c0).trans ((if_neg c1).trans ((if_neg c2).trans ((if_neg c3).trans rfl)))))]
          exact rx_ri rfl
theorem bz_X2_isPlain {s : Sg} {a1 : Int32} : bz (D_X2_isPlain s a1) = true := by
  by_cases c0 : a1 < 0
  · rw [show (D_X2_isPlain s a1) = 0 from ((if_pos c0).trans rfl)]
    exact rfl
  · by_cases c1 : (s 20 2) ≤ a1
    · rw [show (D_X2_isPlain s a1) = 0 from ((if_neg c0).trans ((if_pos c1).trans rfl))]
      exact rfl
    · by_cases c2 : 8 ≤ a1
      · rw [show (D_X2_isPlain s a1) = 0 from ((if_neg c0).trans ((if_neg c1).trans ((if_pos c2).trans rfl)))]
        exact rfl
      · by_cases c3 : (s 22 a1.toNatClampNeg) = 0
        · rw [show (D_X2_isPlain s a1) = 1 from ((if_neg c0).trans ((if_neg c1).trans ((if_neg c2).trans ((if_pos c3).trans rfl))))]
          exact rfl
        · rw [show (D_X2_isPlain s a1) = 0 from ((if_neg c0).trans ((if_neg c1).trans ((if_neg c2).trans ((if_neg c3).trans rfl))))]
          exact rfl
theorem rc_X2_isPlain (hP : WOK b w H0) {s : Sg} {a1 : Int32} : Rc sc 1 17 [.ref (b + 20), .int a1] (wd b w wl H0 s, kn) (some (.int (D_X2_isPlain s a1))) (wd b w wl H0 s, kn) := rx_mc (m_X2_isPlain hP) rfl (bz_X2_isPlain ..) (Nat.ble_eq_true_of_le (Nat.le_refl _)) (Nat.ble_eq_true_of_le (Nat.le_refl _))
-- LinkHarbour$ItemRow.joinsAhead
noncomputable def D_X2_joinsAhead (s : Sg) (a1 : Int32) : Int32 := (if a1 < 1 then 0 else (if (s 20 2) ≤ a1 then 0 else (if 8 ≤ a1 then 0 else (if (s 22 a1.toNatClampNeg) = 2 then (if (s 22 (a1 - 1).toNatClampNeg) = 0 then 0 else 1) else 0))))
theorem m_X2_joinsAhead (hP : WOK b w H0) {s : Sg} {a1 : Int32} : Rx sc g_X2_joinsAhead 0 ((0, [(0, .ref (b + 20)), (1, .int a1)], [])) (wd b w wl H0 s, kn) (some (.int (D_X2_joinsAhead s a1))) (wd b w wl H0 s, kn) := by
  show Rx sc g_X2_joinsAhead 0 (0, [(0, .ref (b + 20)), (1, .int a1)], []) (wd b w wl H0 s, kn) (some (.int (D_X2_joinsAhead s a1))) (wd b w wl H0 s, kn)
  refine rx_k 2 (2, [(0, .ref (b + 20)), (1, .int a1)], [.int 1, .int a1]) (fun _ _ => rfl) ?_
  by_cases c0 : a1 < 1
  · refine rx_icT rfl (bt c0) ?_
    refine rx_k 1 (45, [(0, .ref (b + 20)), (1, .int a1)], [.int 0]) (fun _ _ => rfl) ?_
    rw [(show (D_X2_joinsAhead s a1) = 0 from ((if_pos c0).trans rfl))]
    exact rx_ri rfl
  · refine rx_icF rfl (bf c0) rfl ?_
    refine rx_k 2 (7, [(0, .ref (b + 20)), (1, .int a1)], [.ref (b + 20), .int a1]) (fun _ _ => rfl) ?_
    refine rx_getf rfl rfl (wg_20 hP) rfl ?_
    by_cases c1 : (s 20 2) ≤ a1
    · refine rx_icT rfl (bt c1) ?_
      refine rx_k 1 (45, [(0, .ref (b + 20)), (1, .int a1)], [.int 0]) (fun _ _ => rfl) ?_
      rw [(show (D_X2_joinsAhead s a1) = 0 from ((if_neg c0).trans ((if_pos c1).trans rfl)))]
      exact rx_ri rfl
    · refine rx_icF rfl (bf c1) rfl ?_
      refine rx_k 2 (16, [(0, .ref (b + 20)), (1, .int a1)], [.int 8, .int a1]) (fun _ _ => rfl) ?_
      by_cases c2 : 8 ≤ a1
      · refine rx_icT rfl (bt c2) ?_
        refine rx_k 1 (45, [(0, .ref (b + 20)), (1, .int a1)], [.int 0]) (fun _ _ => rfl) ?_
        rw [(show (D_X2_joinsAhead s a1) = 0 from ((if_neg c0).trans ((if_neg c1).trans ((if_pos c2).trans rfl))))]
        exact rx_ri rfl
      · refine rx_icF rfl (bf c2) rfl ?_
        refine rx_k 1 (20, [(0, .ref (b + 20)), (1, .int a1)], [.ref (b + 20)]) (fun _ _ => rfl) ?_
        refine rx_getf rfl rfl (wg_20 hP) rfl ?_
        refine rx_k 1 (24, [(0, .ref (b + 20)), (1, .int a1)], [.int a1, .ref (b + 22)]) (fun _ _ => rfl) ?_
        refine rx_ild rfl rfl (wg_22 hP) (ar_at (rg_c (i_ge0 c0 (m := 1) (n := 1) rfl (by decide)) c2 (m := 8) (n := 8) rfl)) ?_
        refine rx_k 1 (26, [(0, .ref (b + 20)), (1, .int a1)], [.int 2, .int (s 22 a1.toNatClampNeg)]) (fun _ _ => rfl) ?_
        by_cases c3 : (s 22 a1.toNatClampNeg) = 2
        · refine rx_icF rfl (nf c3) rfl ?_
          refine rx_k 1 (30, [(0, .ref (b + 20)), (1, .int a1)], [.ref (b + 20)]) (fun _ _ => rfl) ?_
          refine rx_getf rfl rfl (wg_20 hP) rfl ?_
          refine rx_k 3 (36, [(0, .ref (b + 20)), (1, .int a1)], [.int (a1 - 1), .ref (b + 22)]) (fun _ _ => rfl) ?_
          refine rx_ild rfl rfl (wg_22 hP) (ar_at (rg_dec (i_ge c0 (m := 1) (n := 1) rfl) (i_lt c2 (m := 8) (n := 8) rfl) (by decide))) ?_
          by_cases c4 : (s 22 (a1 - 1).toNatClampNeg) = 0
          · refine rx_ifT rfl (bt c4) ?_
            refine rx_k 1 (45, [(0, .ref (b + 20)), (1, .int a1)], [.int 0]) (fun _ _ => rfl) ?_
            rw [(show (D_X2_joinsAhead s a1) = 0 from ((if_neg c0).trans ((if_neg c1).trans ((if_neg c2).trans ((if_pos c3).trans ((if_pos c4).trans rfl))))))]
            exact rx_ri rfl
          · refine rx_ifF rfl (bf c4) rfl ?_
            refine rx_k 2 (45, [(0, .ref (b + 20)), (1, .int a1)], [.int 1]) (fun _ _ => rfl) ?_
            rw [(show (D_X2_joinsAhead s a1) = 1 from ((if_neg c0).trans ((if_neg c1).trans ((if_neg c2).trans ((if_pos c3).trans ((if_neg c4).trans rfl))))))]
            exact rx_ri rfl
        · refine rx_icT rfl (nt c3) ?_
          refine rx_k 1 (45, [(0, .ref (b + 20)), (1, .int a1)], [.int 0]) (fun _ _ => rfl) ?_
          rw [(show (D_X2_joinsAhead s a1) = 0 from ((if_neg c0).trans ((if_neg c1).trans ((if_neg c2).trans ((if_neg c3).trans rfl)))))]
          exact rx_ri rfl
theorem bz_X2_joinsAhead {s : Sg} {a1 : Int32} : bz (D_X2_joinsAhead s a1) = true := by
  by_cases c0 : a1 < 1
  · rw [show (D_X2_joinsAhead s a1) = 0 from ((if_pos c0).trans rfl)]
    exact rfl
  · by_cases c1 : (s 20 2) ≤ a1
    · rw [show (D_X2_joinsAhead s a1) = 0 from ((if_neg c0).trans ((if_pos c1).trans rfl))]
      exact rfl
    · by_cases c2 : 8 ≤ a1
      · rw [show (D_X2_joinsAhead s a1) = 0 from ((if_neg c0).trans ((if_neg c1).trans ((if_pos c2).trans rfl)))]
        exact rfl
      · by_cases c3 : (s 22 a1.toNatClampNeg) = 2
        · by_cases c4 : (s 22 (a1 - 1).toNatClampNeg) = 0
          · rw [show (D_X2_joinsAhead s a1) = 0 from ((if_neg c0).trans ((if_neg c1).trans ((if_neg c2).trans ((if_pos c3).trans ((if_pos c4).trans rfl)))))]
            exact rfl
          · rw [show (D_X2_joinsAhead s a1) = 1 from ((if_neg c0).trans ((if_neg c1).trans ((if_neg c2).trans ((if_pos c3).trans ((if_neg c4).trans rfl)))))]
            exact rfl
        · rw [show (D_X2_joinsAhead s a1) = 0 from ((if_neg c0).trans ((if_neg c1).trans ((if_neg c2).trans ((if_neg c3).trans rfl))))]
          exact rfl
theorem rc_X2_joinsAhead (hP : WOK b w H0) {s : Sg} {a1 : Int32} : Rc sc 1 18 [.ref (b + 20), .int a1] (wd b w wl H0 s, kn) (some (.int (D_X2_joinsAhead s a1))) (wd b w wl H0 s, kn) := rx_mc (m_X2_joinsAhead hP) rfl (bz_X2_joinsAhead ..) (Nat.ble_eq_true_of_le (Nat.le_refl _)) (Nat.ble_eq_true_of_le (Nat.le_refl _))
-- LinkHarbour$ItemRow.groupEnd
def fr_X2_groupEnd_4 (b w : Nat) (x2 : Int32) : EF := (4, [(0, .ref (b + 20)), (2, .int x2)], [])
def fe_X2_groupEnd_4 (b w : Nat) (x2 : Int32) : EF := (28, [(0, .ref (b + 20))], [])
noncomputable def B_X2_groupEnd_4 (s : Sg) (x2 : Int32) : Option (Option Int32) × (Int32) := (if (s 20 2) ≤ x2 then ((some none), x2) else (if (D_X2_joinsAhead s x2) = 0 then (some (some x2), x2) else (none, (x2 + 1))))
theorem b_X2_groupEnd_4 (hP : WOK b w H0) {s : Sg} {x2 : Int32} (o : Option Value) (h' : EH) (hN : NN s) (hv : 0 ≤ x2.toInt) (hc : ∀ (t2 : Int32), (B_X2_groupEnd_4 s x2) = (none, t2) → x2.toInt < 2147483647 → t2 = x2 + 1 → Rx sc g_X2_groupEnd 1 (fr_X2_groupEnd_4 b w t2) (wd b w wl H0 s, kn) o h') (he : ∀ (t2 : Int32), (B_X2_groupEnd_4 s x2) = (some none, t2) → Rx sc g_X2_groupEnd 1 (fe_X2_groupEnd_4 b w t2) (wd b w wl H0 s, kn) o h') (hr : ∀ (v : Int32) (t2 : Int32), (B_X2_groupEnd_4 s x2) = (some (some v), t2) → o = some (.int v) ∧ h' = (wd b w wl H0 s, kn)) : Rx sc g_X2_groupEnd 1 (fr_X2_groupEnd_4 b w x2) (wd b w wl H0 s, kn) o h' := by
  show Rx sc g_X2_groupEnd 1 (4, [(0, .ref (b + 20)), (2, .int x2)], []) (wd b w wl H0 s, kn) o h'
  refine rx_k 2 (6, [(0, .ref (b + 20)), (2, .int x2)], [.ref (b + 20), .int x2]) (fun _ _ => rfl) ?_
  refine rx_getf rfl rfl (wg_20 hP) rfl ?_
  by_cases c0 : (s 20 2) ≤ x2
  · refine rx_icT rfl (bt c0) ?_
    exact rx_lo am_X2_groupEnd (lo := [(0, .ref (b + 20))]) (List.forall_mem_cons.mpr ⟨List.mem_of_getElem? (i := 0) rfl, (fun _ h => absurd h List.not_mem_nil)⟩) rfl (he _ (show (B_X2_groupEnd_4 s x2) = ((some none), x2) from ((if_pos c0).trans rfl)))
  · refine rx_icF rfl (bf c0) rfl ?_
    refine rx_k 2 (14, [(0, .ref (b + 20)), (2, .int x2)], [.int x2, .ref (b + 20)]) (fun _ _ => rfl) ?_
    refine rx_inv rfl rfl (rc_X2_joinsAhead hP) rfl rfl rfl (q_recv (wg_20 hP)) rfl rfl ?_
    by_cases c1 : (D_X2_joinsAhead s x2) = 0
    · refine rx_ifF rfl (nf c1) rfl ?_
      refine rx_k 1 (21, [(0, .ref (b + 20)), (2, .int x2)], [.int x2]) (fun _ _ => rfl) ?_
      obtain ⟨hr1, hr2⟩ := hr _ _ (show (B_X2_groupEnd_4 s x2) = (some (some x2), x2) from ((if_neg c0).trans ((if_pos c1).trans rfl)))
      rw [hr1, hr2]
      exact rx_ri rfl
    · refine rx_ifT rfl (nt c1) ?_
      refine rx_k 2 (4, [(2, .int (x2 + 1)), (0, .ref (b + 20))], []) (fun _ _ => rfl) ?_
      refine rx_lo am_X2_groupEnd (lo := [(0, .ref (b + 20)), (2, .int (x2 + 1))]) (List.forall_mem_cons.mpr ⟨List.mem_of_getElem? (i := 1) rfl, (List.forall_mem_cons.mpr ⟨List.mem_of_getElem? (i := 0) rfl, (fun _ h => absurd h List.not_mem_nil)⟩)⟩) rfl (hc _ (show (B_X2_groupEnd_4 s x2) = (none, (x2 + 1)) from ((if_neg c0).trans ((if_neg c1).trans rfl))) (lt_nle c0) rfl)
noncomputable def R_X2_groupEnd_28 (s : Sg) : Int32 := (s 20 2)
theorem r_X2_groupEnd_28 (hP : WOK b w H0) {s : Sg} (hN : NN s) : Rx sc g_X2_groupEnd 1 ((28, [(0, .ref (b + 20))], [])) (wd b w wl H0 s, kn) (some (.int (R_X2_groupEnd_28 s))) (wd b w wl H0 s, kn) := by
  show Rx sc g_X2_groupEnd 1 (28, [(0, .ref (b + 20))], []) (wd b w wl H0 s, kn) (some (.int (R_X2_groupEnd_28 s))) (wd b w wl H0 s, kn)
  refine rx_k 1 (29, [(0, .ref (b + 20))], [.ref (b + 20)]) (fun _ _ => rfl) ?_
  refine rx_getf rfl rfl (wg_20 hP) rfl ?_
  rw [(show (R_X2_groupEnd_28 s) = (s 20 2) from rfl)]
  exact rx_ri rfl
noncomputable def D_X2_groupEnd (s : Sg) (a1 : Int32) : Int32 := (match (itf (B_X2_groupEnd_4 s) BIG (a1 + 1)) with | some v => v | none => (R_X2_groupEnd_28 s))
theorem m_X2_groupEnd (hP : WOK b w H0) {s : Sg} {a1 : Int32} (hN : NN s) (ha1 : rg a1 2147483647) : Rx sc g_X2_groupEnd 1 ((0, [(0, .ref (b + 20)), (1, .int a1)], [])) (wd b w wl H0 s, kn) (some (.int (D_X2_groupEnd s a1))) (wd b w wl H0 s, kn) := by
  show Rx sc g_X2_groupEnd 1 (0, [(0, .ref (b + 20)), (1, .int a1)], []) (wd b w wl H0 s, kn) (some (.int (D_X2_groupEnd s a1))) (wd b w wl H0 s, kn)
  refine rx_k 4 (4, [(2, .int (a1 + 1)), (0, .ref (b + 20)), (1, .int a1)], []) (fun _ _ => rfl) ?_
  refine rx_lo am_X2_groupEnd (lo := [(0, .ref (b + 20)), (2, .int (a1 + 1))]) (List.forall_mem_cons.mpr ⟨List.mem_of_getElem? (i := 1) rfl, (List.forall_mem_cons.mpr ⟨List.mem_of_getElem? (i := 0) rfl, (fun _ h => absurd h List.not_mem_nil)⟩)⟩) rfl ?_
  have e9 := (show (D_X2_groupEnd s a1) = (match (itf (B_X2_groupEnd_4 s) BIG (a1 + 1)) with | some v => v | none => (R_X2_groupEnd_28 s)) from rfl)
  refine rx_loopF1 (B := B_X2_groupEnd_4 s) (fr := (fr_X2_groupEnd_4 b w)) (E := (fe_X2_groupEnd_4 b w)) (hp := (wd b w wl H0 s, kn)) (fun z hv9 hc9 he9 hr9 => b_X2_groupEnd_4 hP _ _ hN hv9 hc9 he9 hr9) BIG (a1 + 1) (nn_inc ha1.1 (rg_lt31 ha1 (by decide)) (by decide)) (le_enough (nn_inc ha1.1 (rg_lt31 ha1 (by decide)) (by decide))) (fun e1 y => ?_) (fun v e1 => ?_)
  · rw [e9, e1]
    exact r_X2_groupEnd_28 hP hN
  · exact ⟨by rw [e9, e1], rfl⟩
theorem rc_X2_groupEnd (hP : WOK b w H0) {s : Sg} {a1 : Int32} (hN : NN s) (ha1 : rg a1 2147483647) : Rc sc 2 19 [.ref (b + 20), .int a1] (wd b w wl H0 s, kn) (some (.int (D_X2_groupEnd s a1))) (wd b w wl H0 s, kn) := rx_mc (m_X2_groupEnd hP hN ha1) rfl rfl (Nat.ble_eq_true_of_le (Nat.le_refl _)) (Nat.ble_eq_true_of_le (Nat.le_refl _))
-- LinkHarbour$Layout.size
noncomputable def D_X3_size (q : Nat) (s : Sg) : Int32 := (s (q + 15) 11)
theorem m_X3_size (hP : WOK b w H0) {q : Nat} (hq : q = 38 ∨ q = 60) {s : Sg} : Rx sc g_X3_size 0 ((0, [(0, .ref (b + (q + 15)))], [])) (wd b w wl H0 s, kn) (some (.int (D_X3_size q s))) (wd b w wl H0 s, kn) := by
  show Rx sc g_X3_size 0 (0, [(0, .ref (b + (q + 15)))], []) (wd b w wl H0 s, kn) (some (.int (D_X3_size q s))) (wd b w wl H0 s, kn)
  refine rx_k 1 (1, [(0, .ref (b + (q + 15)))], [.ref (b + (q + 15))]) (fun _ _ => rfl) ?_
  refine rx_getf rfl rfl (wl_15 hP hq) rfl ?_
  rw [(show (D_X3_size q s) = (s (q + 15) 11) from rfl)]
  exact rx_ri rfl
theorem rc_X3_size (hP : WOK b w H0) {q : Nat} (hq : q = 38 ∨ q = 60) {s : Sg} : Rc sc 1 21 [.ref (b + (q + 15))] (wd b w wl H0 s, kn) (some (.int (D_X3_size q s))) (wd b w wl H0 s, kn) := rx_mc (m_X3_size hP hq) rfl rfl (Nat.ble_eq_true_of_le (Nat.le_refl _)) (Nat.ble_eq_true_of_le (Nat.le_refl _))
-- LinkHarbour$Layout.laid
noncomputable def D_X3_laid (q : Nat) (s : Sg) : Int32 := (s (q + 15) 5)
theorem m_X3_laid (hP : WOK b w H0) {q : Nat} (hq : q = 38 ∨ q = 60) {s : Sg} : Rx sc g_X3_laid 0 ((0, [(0, .ref (b + (q + 15)))], [])) (wd b w wl H0 s, kn) (some (.int (D_X3_laid q s))) (wd b w wl H0 s, kn) := by
  show Rx sc g_X3_laid 0 (0, [(0, .ref (b + (q + 15)))], []) (wd b w wl H0 s, kn) (some (.int (D_X3_laid q s))) (wd b w wl H0 s, kn)
  refine rx_k 1 (1, [(0, .ref (b + (q + 15)))], [.ref (b + (q + 15))]) (fun _ _ => rfl) ?_
  refine rx_getf rfl rfl (wl_15 hP hq) rfl ?_
  rw [(show (D_X3_laid q s) = (s (q + 15) 5) from rfl)]
  exact rx_ri rfl
theorem rc_X3_laid (hP : WOK b w H0) {q : Nat} (hq : q = 38 ∨ q = 60) {s : Sg} : Rc sc 1 22 [.ref (b + (q + 15))] (wd b w wl H0 s, kn) (some (.int (D_X3_laid q s))) (wd b w wl H0 s, kn) := rx_mc (m_X3_laid hP hq) rfl rfl (Nat.ble_eq_true_of_le (Nat.le_refl _)) (Nat.ble_eq_true_of_le (Nat.le_refl _))
-- LinkHarbour$Layout.sectionAt
noncomputable def D_X3_sectionAt (q : Nat) (s : Sg) (a1 : Int32) : Int32 := (if a1 < 0 then (-1) else (if (s (q + 15) 5) ≤ a1 then (-1) else (if 24 ≤ a1 then (-1) else (s (q + 16) a1.toNatClampNeg))))
theorem m_X3_sectionAt (hP : WOK b w H0) {q : Nat} (hq : q = 38 ∨ q = 60) {s : Sg} {a1 : Int32} : Rx sc g_X3_sectionAt 0 ((0, [(0, .ref (b + (q + 15))), (1, .int a1)], [])) (wd b w wl H0 s, kn) (some (.int (D_X3_sectionAt q s a1))) (wd b w wl H0 s, kn) := by
  show Rx sc g_X3_sectionAt 0 (0, [(0, .ref (b + (q + 15))), (1, .int a1)], []) (wd b w wl H0 s, kn) (some (.int (D_X3_sectionAt q s a1))) (wd b w wl H0 s, kn)
  refine rx_k 1 (1, [(0, .ref (b + (q + 15))), (1, .int a1)], [.int a1]) (fun _ _ => rfl) ?_
  by_cases c0 : a1 < 0
  · refine rx_ifT rfl (bt c0) ?_
    refine rx_k 1 (28, [(0, .ref (b + (q + 15))), (1, .int a1)], [.int (-1)]) (fun _ _ => rfl) ?_
    rw [(show (D_X3_sectionAt q s a1) = (-1) from ((if_pos c0).trans rfl))]
    exact rx_ri rfl
  · refine rx_ifF rfl (bf c0) rfl ?_
    refine rx_k 2 (6, [(0, .ref (b + (q + 15))), (1, .int a1)], [.ref (b + (q + 15)), .int a1]) (fun _ _ => rfl) ?_
    refine rx_getf rfl rfl (wl_15 hP hq) rfl ?_
    by_cases c1 : (s (q + 15) 5) ≤ a1
    · refine rx_icT rfl (bt c1) ?_
      refine rx_k 1 (28, [(0, .ref (b + (q + 15))), (1, .int a1)], [.int (-1)]) (fun _ _ => rfl) ?_
      rw [(show (D_X3_sectionAt q s a1) = (-1) from ((if_neg c0).trans ((if_pos c1).trans rfl)))]
      exact rx_ri rfl
    · refine rx_icF rfl (bf c1) rfl ?_
      refine rx_k 2 (15, [(0, .ref (b + (q + 15))), (1, .int a1)], [.int 24, .int a1]) (fun _ _ => rfl) ?_
      by_cases c2 : 24 ≤ a1
      · refine rx_icT rfl (bt c2) ?_
        refine rx_k 1 (28, [(0, .ref (b + (q + 15))), (1, .int a1)], [.int (-1)]) (fun _ _ => rfl) ?_
        rw [(show (D_X3_sectionAt q s a1) = (-1) from ((if_neg c0).trans ((if_neg c1).trans ((if_pos c2).trans rfl))))]
        exact rx_ri rfl
      · refine rx_icF rfl (bf c2) rfl ?_
        refine rx_k 1 (19, [(0, .ref (b + (q + 15))), (1, .int a1)], [.ref (b + (q + 15))]) (fun _ _ => rfl) ?_
        refine rx_getf rfl rfl (wl_15 hP hq) rfl ?_
        refine rx_k 1 (23, [(0, .ref (b + (q + 15))), (1, .int a1)], [.int a1, .ref (b + (q + 16))]) (fun _ _ => rfl) ?_
        refine rx_ild rfl rfl (wl_16 hP hq) (ar_at (rg_c (i_ge c0 rfl) c2 (m := 24) (n := 24) rfl)) ?_
        refine rx_k 1 (28, [(0, .ref (b + (q + 15))), (1, .int a1)], [.int (s (q + 16) a1.toNatClampNeg)]) (fun _ _ => rfl) ?_
        rw [(show (D_X3_sectionAt q s a1) = (s (q + 16) a1.toNatClampNeg) from ((if_neg c0).trans ((if_neg c1).trans ((if_neg c2).trans rfl))))]
        exact rx_ri rfl
theorem rc_X3_sectionAt (hP : WOK b w H0) {q : Nat} (hq : q = 38 ∨ q = 60) {s : Sg} {a1 : Int32} : Rc sc 1 23 [.ref (b + (q + 15)), .int a1] (wd b w wl H0 s, kn) (some (.int (D_X3_sectionAt q s a1))) (wd b w wl H0 s, kn) := rx_mc (m_X3_sectionAt hP hq) rfl rfl (Nat.ble_eq_true_of_le (Nat.le_refl _)) (Nat.ble_eq_true_of_le (Nat.le_refl _))
-- LinkHarbour$Reaching.hasSection
noncomputable def D_X7_hasSection (q : Nat) (s : Sg) (a1 : Int32) : Int32 := (if (D_X11_isIn a1 24) = 0 then 0 else (if (D_X11_hasBit (s (q + 12) 5) a1) = 0 then 0 else 1))
theorem m_X7_hasSection (hP : WOK b w H0) {q : Nat} (hq : q = 38 ∨ q = 60) {s : Sg} {a1 : Int32} : Rx sc g_X7_hasSection 1 ((0, [(0, .ref (b + (q + 12))), (1, .int a1)], [])) (wd b w wl H0 s, kn) (some (.int (D_X7_hasSection q s a1))) (wd b w wl H0 s, kn) := by
  show Rx sc g_X7_hasSection 1 (0, [(0, .ref (b + (q + 12))), (1, .int a1)], []) (wd b w wl H0 s, kn) (some (.int (D_X7_hasSection q s a1))) (wd b w wl H0 s, kn)
  refine rx_k 2 (3, [(0, .ref (b + (q + 12))), (1, .int a1)], [.int 24, .int a1]) (fun _ _ => rfl) ?_
  refine rx_inv rfl rfl (rc_X11_isIn) rfl rfl rfl rfl rfl rfl ?_
  by_cases c0 : (D_X11_isIn a1 24) = 0
  · refine rx_ifT rfl (bt c0) ?_
    refine rx_k 1 (25, [(0, .ref (b + (q + 12))), (1, .int a1)], [.int 0]) (fun _ _ => rfl) ?_
    rw [(show (D_X7_hasSection q s a1) = 0 from ((if_pos c0).trans rfl))]
    exact rx_ri rfl
  · refine rx_ifF rfl (bf c0) rfl ?_
    refine rx_k 1 (10, [(0, .ref (b + (q + 12))), (1, .int a1)], [.ref (b + (q + 12))]) (fun _ _ => rfl) ?_
    refine rx_getf rfl rfl (wl_12 hP hq) rfl ?_
    refine rx_k 1 (14, [(0, .ref (b + (q + 12))), (1, .int a1)], [.int a1, .int (s (q + 12) 5)]) (fun _ _ => rfl) ?_
    refine rx_inv rfl rfl (rc_X11_hasBit) rfl rfl rfl rfl rfl rfl ?_
    by_cases c1 : (D_X11_hasBit (s (q + 12) 5) a1) = 0
    · refine rx_ifT rfl (bt c1) ?_
      refine rx_k 1 (25, [(0, .ref (b + (q + 12))), (1, .int a1)], [.int 0]) (fun _ _ => rfl) ?_
      rw [(show (D_X7_hasSection q s a1) = 0 from ((if_neg c0).trans ((if_pos c1).trans rfl)))]
      exact rx_ri rfl
    · refine rx_ifF rfl (bf c1) rfl ?_
      refine rx_k 2 (25, [(0, .ref (b + (q + 12))), (1, .int a1)], [.int 1]) (fun _ _ => rfl) ?_
      rw [(show (D_X7_hasSection q s a1) = 1 from ((if_neg c0).trans ((if_neg c1).trans rfl)))]
      exact rx_ri rfl
theorem bz_X7_hasSection {q : Nat} {s : Sg} {a1 : Int32} : bz (D_X7_hasSection q s a1) = true := by
  by_cases c0 : (D_X11_isIn a1 24) = 0
  · rw [show (D_X7_hasSection q s a1) = 0 from ((if_pos c0).trans rfl)]
    exact rfl
  · by_cases c1 : (D_X11_hasBit (s (q + 12) 5) a1) = 0
    · rw [show (D_X7_hasSection q s a1) = 0 from ((if_neg c0).trans ((if_pos c1).trans rfl))]
      exact rfl
    · rw [show (D_X7_hasSection q s a1) = 1 from ((if_neg c0).trans ((if_neg c1).trans rfl))]
      exact rfl
theorem rc_X7_hasSection (hP : WOK b w H0) {q : Nat} (hq : q = 38 ∨ q = 60) {s : Sg} {a1 : Int32} : Rc sc 2 105 [.ref (b + (q + 12)), .int a1] (wd b w wl H0 s, kn) (some (.int (D_X7_hasSection q s a1))) (wd b w wl H0 s, kn) := rx_mc (m_X7_hasSection hP hq) rfl (bz_X7_hasSection ..) (Nat.ble_eq_true_of_le (Nat.le_refl _)) (Nat.ble_eq_true_of_le (Nat.le_refl _))
-- LinkHarbour$Layout.addressOf
noncomputable def D_X3_addressOf (q : Nat) (s : Sg) (a1 : Int32) : Int32 := (if (D_X7_hasSection q s a1) = 0 then (-1) else (if (D_X11_isIn a1 24) = 0 then (-1) else (s (q + 17) a1.toNatClampNeg)))
theorem m_X3_addressOf (hP : WOK b w H0) {q : Nat} (hq : q = 38 ∨ q = 60) {s : Sg} {a1 : Int32} : Rx sc g_X3_addressOf 2 ((0, [(0, .ref (b + (q + 15))), (1, .int a1)], [])) (wd b w wl H0 s, kn) (some (.int (D_X3_addressOf q s a1))) (wd b w wl H0 s, kn) := by
  show Rx sc g_X3_addressOf 2 (0, [(0, .ref (b + (q + 15))), (1, .int a1)], []) (wd b w wl H0 s, kn) (some (.int (D_X3_addressOf q s a1))) (wd b w wl H0 s, kn)
  refine rx_k 1 (1, [(0, .ref (b + (q + 15))), (1, .int a1)], [.ref (b + (q + 15))]) (fun _ _ => rfl) ?_
  refine rx_getf rfl rfl (wl_15 hP hq) rfl ?_
  refine rx_k 1 (5, [(0, .ref (b + (q + 15))), (1, .int a1)], [.int a1, .ref (b + (q + 12))]) (fun _ _ => rfl) ?_
  refine rx_inv rfl rfl (rc_X7_hasSection hP hq) rfl rfl rfl (q_recv (wl_12 hP hq)) rfl rfl ?_
  by_cases c0 : (D_X7_hasSection q s a1) = 0
  · refine rx_ifT rfl (bt c0) ?_
    refine rx_k 1 (30, [(0, .ref (b + (q + 15))), (1, .int a1)], [.int (-1)]) (fun _ _ => rfl) ?_
    rw [(show (D_X3_addressOf q s a1) = (-1) from ((if_pos c0).trans rfl))]
    exact rx_ri rfl
  · refine rx_ifF rfl (bf c0) rfl ?_
    refine rx_k 2 (14, [(0, .ref (b + (q + 15))), (1, .int a1)], [.int 24, .int a1]) (fun _ _ => rfl) ?_
    refine rx_inv rfl rfl (rc_X11_isIn) rfl rfl rfl rfl rfl rfl ?_
    by_cases c1 : (D_X11_isIn a1 24) = 0
    · refine rx_ifT rfl (bt c1) ?_
      refine rx_k 1 (30, [(0, .ref (b + (q + 15))), (1, .int a1)], [.int (-1)]) (fun _ _ => rfl) ?_
      rw [(show (D_X3_addressOf q s a1) = (-1) from ((if_neg c0).trans ((if_pos c1).trans rfl)))]
      exact rx_ri rfl
    · refine rx_ifF rfl (bf c1) rfl ?_
      refine rx_k 1 (21, [(0, .ref (b + (q + 15))), (1, .int a1)], [.ref (b + (q + 15))]) (fun _ _ => rfl) ?_
      refine rx_getf rfl rfl (wl_15 hP hq) rfl ?_
      refine rx_k 1 (25, [(0, .ref (b + (q + 15))), (1, .int a1)], [.int a1, .ref (b + (q + 17))]) (fun _ _ => rfl) ?_
      refine rx_ild rfl rfl (wl_17 hP hq) (ar_at (rg_isIn c1 (m := 24) (n := 24) rfl)) ?_
      refine rx_k 1 (30, [(0, .ref (b + (q + 15))), (1, .int a1)], [.int (s (q + 17) a1.toNatClampNeg)]) (fun _ _ => rfl) ?_
      rw [(show (D_X3_addressOf q s a1) = (s (q + 17) a1.toNatClampNeg) from ((if_neg c0).trans ((if_neg c1).trans rfl)))]
      exact rx_ri rfl
theorem rc_X3_addressOf (hP : WOK b w H0) {q : Nat} (hq : q = 38 ∨ q = 60) {s : Sg} {a1 : Int32} : Rc sc 3 24 [.ref (b + (q + 15)), .int a1] (wd b w wl H0 s, kn) (some (.int (D_X3_addressOf q s a1))) (wd b w wl H0 s, kn) := rx_mc (m_X3_addressOf hP hq) rfl rfl (Nat.ble_eq_true_of_le (Nat.le_refl _)) (Nat.ble_eq_true_of_le (Nat.le_refl _))
-- LinkHarbour$Layout.wordsOf
noncomputable def D_X3_wordsOf (q : Nat) (s : Sg) (a1 : Int32) : Int32 := (if (D_X7_hasSection q s a1) = 0 then 0 else (if (D_X11_isIn a1 24) = 0 then 0 else (s (q + 18) a1.toNatClampNeg)))
theorem m_X3_wordsOf (hP : WOK b w H0) {q : Nat} (hq : q = 38 ∨ q = 60) {s : Sg} {a1 : Int32} : Rx sc g_X3_wordsOf 2 ((0, [(0, .ref (b + (q + 15))), (1, .int a1)], [])) (wd b w wl H0 s, kn) (some (.int (D_X3_wordsOf q s a1))) (wd b w wl H0 s, kn) := by
  show Rx sc g_X3_wordsOf 2 (0, [(0, .ref (b + (q + 15))), (1, .int a1)], []) (wd b w wl H0 s, kn) (some (.int (D_X3_wordsOf q s a1))) (wd b w wl H0 s, kn)
  refine rx_k 1 (1, [(0, .ref (b + (q + 15))), (1, .int a1)], [.ref (b + (q + 15))]) (fun _ _ => rfl) ?_
  refine rx_getf rfl rfl (wl_15 hP hq) rfl ?_
  refine rx_k 1 (5, [(0, .ref (b + (q + 15))), (1, .int a1)], [.int a1, .ref (b + (q + 12))]) (fun _ _ => rfl) ?_
  refine rx_inv rfl rfl (rc_X7_hasSection hP hq) rfl rfl rfl (q_recv (wl_12 hP hq)) rfl rfl ?_
  by_cases c0 : (D_X7_hasSection q s a1) = 0
  · refine rx_ifT rfl (bt c0) ?_
    refine rx_k 1 (30, [(0, .ref (b + (q + 15))), (1, .int a1)], [.int 0]) (fun _ _ => rfl) ?_
    rw [(show (D_X3_wordsOf q s a1) = 0 from ((if_pos c0).trans rfl))]
    exact rx_ri rfl
  · refine rx_ifF rfl (bf c0) rfl ?_
    refine rx_k 2 (14, [(0, .ref (b + (q + 15))), (1, .int a1)], [.int 24, .int a1]) (fun _ _ => rfl) ?_
    refine rx_inv rfl rfl (rc_X11_isIn) rfl rfl rfl rfl rfl rfl ?_
    by_cases c1 : (D_X11_isIn a1 24) = 0
    · refine rx_ifT rfl (bt c1) ?_
      refine rx_k 1 (30, [(0, .ref (b + (q + 15))), (1, .int a1)], [.int 0]) (fun _ _ => rfl) ?_
      rw [(show (D_X3_wordsOf q s a1) = 0 from ((if_neg c0).trans ((if_pos c1).trans rfl)))]
      exact rx_ri rfl
    · refine rx_ifF rfl (bf c1) rfl ?_
      refine rx_k 1 (21, [(0, .ref (b + (q + 15))), (1, .int a1)], [.ref (b + (q + 15))]) (fun _ _ => rfl) ?_
      refine rx_getf rfl rfl (wl_15 hP hq) rfl ?_
      refine rx_k 1 (25, [(0, .ref (b + (q + 15))), (1, .int a1)], [.int a1, .ref (b + (q + 18))]) (fun _ _ => rfl) ?_
      refine rx_ild rfl rfl (wl_18 hP hq) (ar_at (rg_isIn c1 (m := 24) (n := 24) rfl)) ?_
      refine rx_k 1 (30, [(0, .ref (b + (q + 15))), (1, .int a1)], [.int (s (q + 18) a1.toNatClampNeg)]) (fun _ _ => rfl) ?_
      rw [(show (D_X3_wordsOf q s a1) = (s (q + 18) a1.toNatClampNeg) from ((if_neg c0).trans ((if_neg c1).trans rfl)))]
      exact rx_ri rfl
theorem rc_X3_wordsOf (hP : WOK b w H0) {q : Nat} (hq : q = 38 ∨ q = 60) {s : Sg} {a1 : Int32} : Rc sc 3 25 [.ref (b + (q + 15)), .int a1] (wd b w wl H0 s, kn) (some (.int (D_X3_wordsOf q s a1))) (wd b w wl H0 s, kn) := rx_mc (m_X3_wordsOf hP hq) rfl rfl (Nat.ble_eq_true_of_le (Nat.le_refl _)) (Nat.ble_eq_true_of_le (Nat.le_refl _))
-- LinkHarbour$Layout.longsOf
noncomputable def D_X3_longsOf (q : Nat) (s : Sg) (a1 : Int32) : Int32 := (if (D_X7_hasSection q s a1) = 0 then 0 else (if (D_X11_isIn a1 24) = 0 then 0 else (s (q + 19) a1.toNatClampNeg)))
theorem m_X3_longsOf (hP : WOK b w H0) {q : Nat} (hq : q = 38 ∨ q = 60) {s : Sg} {a1 : Int32} : Rx sc g_X3_longsOf 2 ((0, [(0, .ref (b + (q + 15))), (1, .int a1)], [])) (wd b w wl H0 s, kn) (some (.int (D_X3_longsOf q s a1))) (wd b w wl H0 s, kn) := by
  show Rx sc g_X3_longsOf 2 (0, [(0, .ref (b + (q + 15))), (1, .int a1)], []) (wd b w wl H0 s, kn) (some (.int (D_X3_longsOf q s a1))) (wd b w wl H0 s, kn)
  refine rx_k 1 (1, [(0, .ref (b + (q + 15))), (1, .int a1)], [.ref (b + (q + 15))]) (fun _ _ => rfl) ?_
  refine rx_getf rfl rfl (wl_15 hP hq) rfl ?_
  refine rx_k 1 (5, [(0, .ref (b + (q + 15))), (1, .int a1)], [.int a1, .ref (b + (q + 12))]) (fun _ _ => rfl) ?_
  refine rx_inv rfl rfl (rc_X7_hasSection hP hq) rfl rfl rfl (q_recv (wl_12 hP hq)) rfl rfl ?_
  by_cases c0 : (D_X7_hasSection q s a1) = 0
  · refine rx_ifT rfl (bt c0) ?_
    refine rx_k 1 (30, [(0, .ref (b + (q + 15))), (1, .int a1)], [.int 0]) (fun _ _ => rfl) ?_
    rw [(show (D_X3_longsOf q s a1) = 0 from ((if_pos c0).trans rfl))]
    exact rx_ri rfl
  · refine rx_ifF rfl (bf c0) rfl ?_
    refine rx_k 2 (14, [(0, .ref (b + (q + 15))), (1, .int a1)], [.int 24, .int a1]) (fun _ _ => rfl) ?_
    refine rx_inv rfl rfl (rc_X11_isIn) rfl rfl rfl rfl rfl rfl ?_
    by_cases c1 : (D_X11_isIn a1 24) = 0
    · refine rx_ifT rfl (bt c1) ?_
      refine rx_k 1 (30, [(0, .ref (b + (q + 15))), (1, .int a1)], [.int 0]) (fun _ _ => rfl) ?_
      rw [(show (D_X3_longsOf q s a1) = 0 from ((if_neg c0).trans ((if_pos c1).trans rfl)))]
      exact rx_ri rfl
    · refine rx_ifF rfl (bf c1) rfl ?_
      refine rx_k 1 (21, [(0, .ref (b + (q + 15))), (1, .int a1)], [.ref (b + (q + 15))]) (fun _ _ => rfl) ?_
      refine rx_getf rfl rfl (wl_15 hP hq) rfl ?_
      refine rx_k 1 (25, [(0, .ref (b + (q + 15))), (1, .int a1)], [.int a1, .ref (b + (q + 19))]) (fun _ _ => rfl) ?_
      refine rx_ild rfl rfl (wl_19 hP hq) (ar_at (rg_isIn c1 (m := 24) (n := 24) rfl)) ?_
      refine rx_k 1 (30, [(0, .ref (b + (q + 15))), (1, .int a1)], [.int (s (q + 19) a1.toNatClampNeg)]) (fun _ _ => rfl) ?_
      rw [(show (D_X3_longsOf q s a1) = (s (q + 19) a1.toNatClampNeg) from ((if_neg c0).trans ((if_neg c1).trans rfl)))]
      exact rx_ri rfl
theorem rc_X3_longsOf (hP : WOK b w H0) {q : Nat} (hq : q = 38 ∨ q = 60) {s : Sg} {a1 : Int32} : Rc sc 3 26 [.ref (b + (q + 15)), .int a1] (wd b w wl H0 s, kn) (some (.int (D_X3_longsOf q s a1))) (wd b w wl H0 s, kn) := rx_mc (m_X3_longsOf hP hq) rfl rfl (Nat.ble_eq_true_of_le (Nat.le_refl _)) (Nat.ble_eq_true_of_le (Nat.le_refl _))
-- LinkHarbour$Layout.countLongs
def fr_X3_countLongs_4 (b w : Nat) (q : Nat) (x2 : Int32) (x1 : Int32) : EF := (4, [(0, .ref (b + (q + 15))), (1, .int x1), (2, .int x2)], [])
def fe_X3_countLongs_4 (b w : Nat) (q : Nat) (x2 : Int32) (x1 : Int32) : EF := (24, [(1, .int x1)], [])
noncomputable def B_X3_countLongs_4 (q : Nat) (s : Sg) (x2 : Int32) (x1 : Int32) : Bool × (Int32 × Int32) := (if 24 ≤ x2 then (false, (x2, x1)) else (true, ((x2 + 1), (x1 + (D_X3_longsOf q s x2)))))
theorem b_X3_countLongs_4 (hP : WOK b w H0) {q : Nat} (hq : q = 38 ∨ q = 60) {s : Sg} {x2 : Int32} {x1 : Int32} (o : Option Value) (h' : EH) (hN : NN s) (hv : 0 ≤ x2.toInt) (hc : ∀ (t2 : Int32) (t1 : Int32), (B_X3_countLongs_4 q s x2 x1) = (true, (t2, t1)) → x2.toInt < 2147483647 → t2 = x2 + 1 → Rx sc g_X3_countLongs 3 (fr_X3_countLongs_4 b w q t2 t1) (wd b w wl H0 s, kn) o h') (he : ∀ (t2 : Int32) (t1 : Int32), (B_X3_countLongs_4 q s x2 x1) = (false, (t2, t1)) → Rx sc g_X3_countLongs 3 (fe_X3_countLongs_4 b w q t2 t1) (wd b w wl H0 s, kn) o h') : Rx sc g_X3_countLongs 3 (fr_X3_countLongs_4 b w q x2 x1) (wd b w wl H0 s, kn) o h' := by
  show Rx sc g_X3_countLongs 3 (4, [(0, .ref (b + (q + 15))), (1, .int x1), (2, .int x2)], []) (wd b w wl H0 s, kn) o h'
  refine rx_k 2 (7, [(0, .ref (b + (q + 15))), (1, .int x1), (2, .int x2)], [.int 24, .int x2]) (fun _ _ => rfl) ?_
  by_cases c0 : 24 ≤ x2
  · refine rx_icT rfl (bt c0) ?_
    exact rx_lo am_X3_countLongs (lo := [(1, .int x1)]) (List.forall_mem_cons.mpr ⟨List.mem_of_getElem? (i := 1) rfl, (fun _ h => absurd h List.not_mem_nil)⟩) rfl (he _ _ (show (B_X3_countLongs_4 q s x2 x1) = (false, (x2, x1)) from ((if_pos c0).trans rfl)))
  · refine rx_icF rfl (bf c0) rfl ?_
    refine rx_k 3 (13, [(0, .ref (b + (q + 15))), (1, .int x1), (2, .int x2)], [.int x2, .ref (b + (q + 15)), .int x1]) (fun _ _ => rfl) ?_
    refine rx_inv rfl rfl (rc_X3_longsOf hP hq) rfl rfl rfl (q_recv (wl_15 hP hq)) rfl rfl ?_
    refine rx_k 4 (4, [(2, .int (x2 + 1)), (1, .int (x1 + (D_X3_longsOf q s x2))), (0, .ref (b + (q + 15)))], []) (fun _ _ => rfl) ?_
    refine rx_lo am_X3_countLongs (lo := [(0, .ref (b + (q + 15))), (1, .int (x1 + (D_X3_longsOf q s x2))), (2, .int (x2 + 1))]) (List.forall_mem_cons.mpr ⟨List.mem_of_getElem? (i := 2) rfl, (List.forall_mem_cons.mpr ⟨List.mem_of_getElem? (i := 1) rfl, (List.forall_mem_cons.mpr ⟨List.mem_of_getElem? (i := 0) rfl, (fun _ h => absurd h List.not_mem_nil)⟩)⟩)⟩) rfl (hc _ _ (show (B_X3_countLongs_4 q s x2 x1) = (true, ((x2 + 1), (x1 + (D_X3_longsOf q s x2)))) from ((if_neg c0).trans rfl)) (lt_nle c0) rfl)
noncomputable def R_X3_countLongs_24 (q : Nat) (s : Sg) (a1 : Int32) : Int32 := a1
theorem r_X3_countLongs_24 (hP : WOK b w H0) {q : Nat} (hq : q = 38 ∨ q = 60) {s : Sg} {a1 : Int32} (hN : NN s) : Rx sc g_X3_countLongs 3 ((24, [(1, .int a1)], [])) (wd b w wl H0 s, kn) (some (.int (R_X3_countLongs_24 q s a1))) (wd b w wl H0 s, kn) := by
  show Rx sc g_X3_countLongs 3 (24, [(1, .int a1)], []) (wd b w wl H0 s, kn) (some (.int (R_X3_countLongs_24 q s a1))) (wd b w wl H0 s, kn)
  refine rx_k 1 (25, [(1, .int a1)], [.int a1]) (fun _ _ => rfl) ?_
  rw [(show (R_X3_countLongs_24 q s a1) = a1 from rfl)]
  exact rx_ri rfl
noncomputable def D_X3_countLongs (q : Nat) (s : Sg) : Int32 := (R_X3_countLongs_24 q s ((itr (uc2 (B_X3_countLongs_4 q s)) BIG (0, 0)).2))
theorem m_X3_countLongs (hP : WOK b w H0) {q : Nat} (hq : q = 38 ∨ q = 60) {s : Sg} (hN : NN s) : Rx sc g_X3_countLongs 3 ((0, [(0, .ref (b + (q + 15)))], [])) (wd b w wl H0 s, kn) (some (.int (D_X3_countLongs q s))) (wd b w wl H0 s, kn) := by
  show Rx sc g_X3_countLongs 3 (0, [(0, .ref (b + (q + 15)))], []) (wd b w wl H0 s, kn) (some (.int (D_X3_countLongs q s))) (wd b w wl H0 s, kn)
  refine rx_k 4 (4, [(2, .int 0), (1, .int 0), (0, .ref (b + (q + 15)))], []) (fun _ _ => rfl) ?_
  refine rx_lo am_X3_countLongs (lo := [(0, .ref (b + (q + 15))), (1, .int 0), (2, .int 0)]) (List.forall_mem_cons.mpr ⟨List.mem_of_getElem? (i := 2) rfl, (List.forall_mem_cons.mpr ⟨List.mem_of_getElem? (i := 1) rfl, (List.forall_mem_cons.mpr ⟨List.mem_of_getElem? (i := 0) rfl, (fun _ h => absurd h List.not_mem_nil)⟩)⟩)⟩) rfl ?_
  refine rx_loop2p (B := B_X3_countLongs_4 q s) (fr := (fr_X3_countLongs_4 b w q)) (E := (fe_X3_countLongs_4 b w q)) (hp := (wd b w wl H0 s, kn)) (fun z2 z1 oo hh9 hI9 hv9 hc9 he9 => b_X3_countLongs_4 hP hq oo hh9 hN hv9 hc9 he9)  BIG 0 0 _ _  (by decide : (0 : Int) ≤ (0 : Int32).toInt) (le_enough (by decide : (0 : Int) ≤ (0 : Int32).toInt)) ?_
  rw [(show (D_X3_countLongs q s) = (R_X3_countLongs_24 q s ((itr (uc2 (B_X3_countLongs_4 q s)) BIG (0, 0)).2)) from rfl)]
  exact r_X3_countLongs_24 hP hq hN
theorem rc_X3_countLongs (hP : WOK b w H0) {q : Nat} (hq : q = 38 ∨ q = 60) {s : Sg} (hN : NN s) : Rc sc 4 27 [.ref (b + (q + 15))] (wd b w wl H0 s, kn) (some (.int (D_X3_countLongs q s))) (wd b w wl H0 s, kn) := rx_mc (m_X3_countLongs hP hq hN) rfl rfl (Nat.ble_eq_true_of_le (Nat.le_refl _)) (Nat.ble_eq_true_of_le (Nat.le_refl _))
-- LinkHarbour.isName
noncomputable def D_X11_isName (a0 : Int32) : Int32 := (if a0 < 0 then 0 else (if 20 ≤ a0 then 0 else 1))
theorem m_X11_isName {hh : EH} {a0 : Int32} : Rx sc g_X11_isName 0 ((0, [(0, .int a0)], [])) hh (some (.int (D_X11_isName a0))) hh := by
  show Rx sc g_X11_isName 0 (0, [(0, .int a0)], []) hh (some (.int (D_X11_isName a0))) hh
  refine rx_k 1 (1, [(0, .int a0)], [.int a0]) (fun _ _ => rfl) ?_
  by_cases c0 : a0 < 0
  · refine rx_ifT rfl (bt c0) ?_
    refine rx_k 1 (15, [(0, .int a0)], [.int 0]) (fun _ _ => rfl) ?_
    rw [(show (D_X11_isName a0) = 0 from ((if_pos c0).trans rfl))]
    exact rx_ri rfl
  · refine rx_ifF rfl (bf c0) rfl ?_
    refine rx_k 2 (7, [(0, .int a0)], [.int 20, .int a0]) (fun _ _ => rfl) ?_
    by_cases c1 : 20 ≤ a0
    · refine rx_icT rfl (bt c1) ?_
      refine rx_k 1 (15, [(0, .int a0)], [.int 0]) (fun _ _ => rfl) ?_
      rw [(show (D_X11_isName a0) = 0 from ((if_neg c0).trans ((if_pos c1).trans rfl)))]
      exact rx_ri rfl
    · refine rx_icF rfl (bf c1) rfl ?_
      refine rx_k 2 (15, [(0, .int a0)], [.int 1]) (fun _ _ => rfl) ?_
      rw [(show (D_X11_isName a0) = 1 from ((if_neg c0).trans ((if_neg c1).trans rfl)))]
      exact rx_ri rfl
theorem bz_X11_isName {a0 : Int32} : bz (D_X11_isName a0) = true := by
  by_cases c0 : a0 < 0
  · rw [show (D_X11_isName a0) = 0 from ((if_pos c0).trans rfl)]
    exact rfl
  · by_cases c1 : 20 ≤ a0
    · rw [show (D_X11_isName a0) = 0 from ((if_neg c0).trans ((if_pos c1).trans rfl))]
      exact rfl
    · rw [show (D_X11_isName a0) = 1 from ((if_neg c0).trans ((if_neg c1).trans rfl))]
      exact rfl
theorem rc_X11_isName {hh : EH} {a0 : Int32} : Rc sc 1 193 [.int a0] hh (some (.int (D_X11_isName a0))) hh := rx_mc (m_X11_isName) rfl (bz_X11_isName ..) (Nat.ble_eq_true_of_le (Nat.le_refl _)) (Nat.ble_eq_true_of_le (Nat.le_refl _))
theorem rg_isName {a : Int32} (h : ¬ D_X11_isName a = 0) : rg a 20 := by
  unfold D_X11_isName at h
  split at h <;> first | exact absurd rfl h | skip
  split at h <;> first | exact absurd rfl h | skip
  exact rg_b (by assumption) (by assumption) (m := 20) rfl
theorem isName_rg {a : Int32} (h : rg a 20) : ¬ D_X11_isName a = 0 := by
  unfold D_X11_isName
  rw [if_neg (n_lt h.1), if_neg (n_le (m := 20) (n := 20) h.2 rfl)]
  decide
end DD
