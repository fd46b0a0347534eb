theorem run_q {q : Nat} {s : Sg} {a1 a2 a3 a5 : Int32} {j : Nat} : (D_X3_layOut q (D_X7_reachAll q (D_X9_settle q (D_X10_take q s a1 a5)) a1 a2) a3) q j = s q j := by
  rw [fw_X3_layOut (by omega) (by omega) (by omega) (by omega) (by omega) (by omega) (by omega) (by omega) (by omega), fw_X7_reachAll (by omega) (by omega) (by omega) (by omega) (by omega) (by omega), fw_X9_settle (by omega) (by omega) (by omega) (by omega) (by omega) (by omega) (by omega) (by omega), fw_X10_take (by omega) (by omega) (by omega) (by omega) (by omega)]
theorem run_u {q : Nat} {s : Sg} {a1 a2 : Int32} : (up (up (up s q 8 a1) q 7 a2) q 6 1) q 6 = 1 ∧ (up (up (up s q 8 a1) q 7 a2) q 6 1) q 7 = a2 ∧ (up (up (up s q 8 a1) q 7 a2) q 6 1) q 8 = a1 := by
  refine ⟨?_, ?_, ?_⟩ <;> simp [up_at]
/-- a link of two states with like tables: all that is told of it is the same -/
theorem fl_run {q : Nat} (hq : q = 38 ∨ q = 60) {s t : Sg} (h : Tb s t) {a1 a2 a3 a4 a5 : Int32} : Fl q (D_X5_run q s a1 a2 a3 a4 a5) (D_X5_run q t a1 a2 a3 a4 a5) ∧ (∀ z : Sg, (D_X5_run q z a1 a2 a3 a4 a5) q 6 = 1 ∧ (D_X5_run q z a1 a2 a3 a4 a5) q 7 = a2 ∧ (D_X5_run q z a1 a2 a3 a4 a5) q 8 = a1) := by
  unfold D_X5_run
  refine ⟨fl_tell hq (pc_run hq h) (by rw [run_q, run_q, run_u.2.2, run_u.2.2]), fun z => ?_⟩
  rw [fw_X5_tellFaults (by omega) (by omega), fw_X5_tellFaults (by omega) (by omega), fw_X5_tellFaults (by omega) (by omega), run_q, run_q, run_q]
  exact run_u
