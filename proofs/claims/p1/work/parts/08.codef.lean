theorem dJ6_bitCount_0f7a4_0 : decode cJ6_bitCount_0f7a4 0 = .ok (.iload_n 0, 1) := by decide +kernel
theorem dJ6_bitCount_0f7a4_1 : decode cJ6_bitCount_0f7a4 1 = .ok (.iload_n 0, 1) := by decide +kernel
theorem dJ6_bitCount_0f7a4_2 : decode cJ6_bitCount_0f7a4 2 = .ok (.iconst 1, 1) := by decide +kernel
theorem dJ6_bitCount_0f7a4_3 : decode cJ6_bitCount_0f7a4 3 = .ok (.iushr, 1) := by decide +kernel
theorem dJ6_bitCount_0f7a4_4 : decode cJ6_bitCount_0f7a4 4 = .ok (.ldc_w 265, 3) := by decide +kernel
theorem dJ6_bitCount_0f7a4_7 : decode cJ6_bitCount_0f7a4 7 = .ok (.iand, 1) := by decide +kernel
theorem dJ6_bitCount_0f7a4_8 : decode cJ6_bitCount_0f7a4 8 = .ok (.isub, 1) := by decide +kernel
theorem dJ6_bitCount_0f7a4_9 : decode cJ6_bitCount_0f7a4 9 = .ok (.istore_n 0, 1) := by decide +kernel
theorem dJ6_bitCount_0f7a4_10 : decode cJ6_bitCount_0f7a4 10 = .ok (.iload_n 0, 1) := by decide +kernel
theorem dJ6_bitCount_0f7a4_11 : decode cJ6_bitCount_0f7a4 11 = .ok (.ldc_w 266, 3) := by decide +kernel
theorem dJ6_bitCount_0f7a4_14 : decode cJ6_bitCount_0f7a4 14 = .ok (.iand, 1) := by decide +kernel
theorem dJ6_bitCount_0f7a4_15 : decode cJ6_bitCount_0f7a4 15 = .ok (.iload_n 0, 1) := by decide +kernel
theorem dJ6_bitCount_0f7a4_16 : decode cJ6_bitCount_0f7a4 16 = .ok (.iconst 2, 1) := by decide +kernel
theorem dJ6_bitCount_0f7a4_17 : decode cJ6_bitCount_0f7a4 17 = .ok (.iushr, 1) := by decide +kernel
theorem dJ6_bitCount_0f7a4_18 : decode cJ6_bitCount_0f7a4 18 = .ok (.ldc_w 266, 3) := by decide +kernel
theorem dJ6_bitCount_0f7a4_21 : decode cJ6_bitCount_0f7a4 21 = .ok (.iand, 1) := by decide +kernel
theorem dJ6_bitCount_0f7a4_22 : decode cJ6_bitCount_0f7a4 22 = .ok (.iadd, 1) := by decide +kernel
theorem dJ6_bitCount_0f7a4_23 : decode cJ6_bitCount_0f7a4 23 = .ok (.istore_n 0, 1) := by decide +kernel
theorem dJ6_bitCount_0f7a4_24 : decode cJ6_bitCount_0f7a4 24 = .ok (.iload_n 0, 1) := by decide +kernel
theorem dJ6_bitCount_0f7a4_25 : decode cJ6_bitCount_0f7a4 25 = .ok (.iload_n 0, 1) := by decide +kernel
theorem dJ6_bitCount_0f7a4_26 : decode cJ6_bitCount_0f7a4 26 = .ok (.iconst 4, 1) := by decide +kernel
theorem dJ6_bitCount_0f7a4_27 : decode cJ6_bitCount_0f7a4 27 = .ok (.iushr, 1) := by decide +kernel
theorem dJ6_bitCount_0f7a4_28 : decode cJ6_bitCount_0f7a4 28 = .ok (.iadd, 1) := by decide +kernel
theorem dJ6_bitCount_0f7a4_29 : decode cJ6_bitCount_0f7a4 29 = .ok (.ldc_w 267, 3) := by decide +kernel
theorem dJ6_bitCount_0f7a4_32 : decode cJ6_bitCount_0f7a4 32 = .ok (.iand, 1) := by decide +kernel
theorem dJ6_bitCount_0f7a4_33 : decode cJ6_bitCount_0f7a4 33 = .ok (.istore_n 0, 1) := by decide +kernel
theorem dJ6_bitCount_0f7a4_34 : decode cJ6_bitCount_0f7a4 34 = .ok (.iload_n 0, 1) := by decide +kernel
theorem dJ6_bitCount_0f7a4_35 : decode cJ6_bitCount_0f7a4 35 = .ok (.iload_n 0, 1) := by decide +kernel
theorem dJ6_bitCount_0f7a4_36 : decode cJ6_bitCount_0f7a4 36 = .ok (.bipush 8, 2) := by decide +kernel
theorem dJ6_bitCount_0f7a4_38 : decode cJ6_bitCount_0f7a4 38 = .ok (.iushr, 1) := by decide +kernel
theorem dJ6_bitCount_0f7a4_39 : decode cJ6_bitCount_0f7a4 39 = .ok (.iadd, 1) := by decide +kernel
theorem dJ6_bitCount_0f7a4_40 : decode cJ6_bitCount_0f7a4 40 = .ok (.istore_n 0, 1) := by decide +kernel
theorem dJ6_bitCount_0f7a4_41 : decode cJ6_bitCount_0f7a4 41 = .ok (.iload_n 0, 1) := by decide +kernel
theorem dJ6_bitCount_0f7a4_42 : decode cJ6_bitCount_0f7a4 42 = .ok (.iload_n 0, 1) := by decide +kernel
theorem dJ6_bitCount_0f7a4_43 : decode cJ6_bitCount_0f7a4 43 = .ok (.bipush 16, 2) := by decide +kernel
theorem dJ6_bitCount_0f7a4_45 : decode cJ6_bitCount_0f7a4 45 = .ok (.iushr, 1) := by decide +kernel
theorem dJ6_bitCount_0f7a4_46 : decode cJ6_bitCount_0f7a4 46 = .ok (.iadd, 1) := by decide +kernel
theorem dJ6_bitCount_0f7a4_47 : decode cJ6_bitCount_0f7a4 47 = .ok (.istore_n 0, 1) := by decide +kernel
theorem dJ6_bitCount_0f7a4_48 : decode cJ6_bitCount_0f7a4 48 = .ok (.iload_n 0, 1) := by decide +kernel
theorem dJ6_bitCount_0f7a4_49 : decode cJ6_bitCount_0f7a4 49 = .ok (.bipush 63, 2) := by decide +kernel
theorem dJ6_bitCount_0f7a4_51 : decode cJ6_bitCount_0f7a4 51 = .ok (.iand, 1) := by decide +kernel
theorem dJ6_bitCount_0f7a4_52 : decode cJ6_bitCount_0f7a4 52 = .ok (.ireturn, 1) := by decide +kernel
def g_J6_bitCount_0f7a4 : Nat → EA := (t_n 27 (t_n 14 (t_n 7 (t_n 2 (t_n 1 (t_l 0 (a_iload 1 0)) (t_l 1 (a_iload 1 0))) (t_n 3 (t_l 2 (a_push 1 (.int 1))) (t_n 4 (t_l 3 (a_ii 1 (fun x y => (x.toUInt32 >>> (y.toUInt32 &&& Int32.toUInt32 31)).toInt32))) (t_l 4 (a_push 3 (.int 1431655765)))))) (t_n 9 (t_n 8 (t_l 7 (a_ii 1 (fun x y => x &&& y))) (t_l 8 (a_ii 1 (fun x y => x - y)))) (t_n 10 (t_l 9 (a_istore 1 1 0)) (t_n 11 (t_l 10 (a_iload 1 0)) (t_l 11 (a_push 3 (.int 858993459))))))) (t_n 21 (t_n 16 (t_n 15 (t_l 14 (a_ii 1 (fun x y => x &&& y))) (t_l 15 (a_iload 1 0))) (t_n 17 (t_l 16 (a_push 1 (.int 2))) (t_n 18 (t_l 17 (a_ii 1 (fun x y => (x.toUInt32 >>> (y.toUInt32 &&& Int32.toUInt32 31)).toInt32))) (t_l 18 (a_push 3 (.int 858993459)))))) (t_n 24 (t_n 22 (t_l 21 (a_ii 1 (fun x y => x &&& y))) (t_n 23 (t_l 22 (a_ii 1 (fun x y => x + y))) (t_l 23 (a_istore 1 1 0)))) (t_n 25 (t_l 24 (a_iload 1 0)) (t_n 26 (t_l 25 (a_iload 1 0)) (t_l 26 (a_push 1 (.int 4)))))))) (t_n 40 (t_n 34 (t_n 29 (t_n 28 (t_l 27 (a_ii 1 (fun x y => (x.toUInt32 >>> (y.toUInt32 &&& Int32.toUInt32 31)).toInt32))) (t_l 28 (a_ii 1 (fun x y => x + y)))) (t_n 32 (t_l 29 (a_push 3 (.int 252645135))) (t_n 33 (t_l 32 (a_ii 1 (fun x y => x &&& y))) (t_l 33 (a_istore 1 1 0))))) (t_n 36 (t_n 35 (t_l 34 (a_iload 1 0)) (t_l 35 (a_iload 1 0))) (t_n 38 (t_l 36 (a_push 2 (.int 8))) (t_n 39 (t_l 38 (a_ii 1 (fun x y => (x.toUInt32 >>> (y.toUInt32 &&& Int32.toUInt32 31)).toInt32))) (t_l 39 (a_ii 1 (fun x y => x + y))))))) (t_n 46 (t_n 42 (t_n 41 (t_l 40 (a_istore 1 1 0)) (t_l 41 (a_iload 1 0))) (t_n 43 (t_l 42 (a_iload 1 0)) (t_n 45 (t_l 43 (a_push 2 (.int 16))) (t_l 45 (a_ii 1 (fun x y => (x.toUInt32 >>> (y.toUInt32 &&& Int32.toUInt32 31)).toInt32)))))) (t_n 49 (t_n 47 (t_l 46 (a_ii 1 (fun x y => x + y))) (t_n 48 (t_l 47 (a_istore 1 1 0)) (t_l 48 (a_iload 1 0)))) (t_n 51 (t_l 49 (a_push 2 (.int 63))) (t_n 52 (t_l 51 (a_ii 1 (fun x y => x &&& y))) (t_l 52 a_iret)))))))
set_option maxRecDepth 100000 in
theorem k_J6_bitCount_0f7a4 (d : Nat) : ∀ pc, ev_Ok cJ6_bitCount_0f7a4 1 [] RJ6 lw_g lw_n lw_q vwCl false (ev_CO mt lw_g lw_n lw_q vwCl d) pc (g_J6_bitCount_0f7a4 pc) := (ok_t_n (ok_t_n (ok_t_n (ok_t_n (ok_t_n (ok_t_l (ok_iload_n dJ6_bitCount_0f7a4_0 rfl)) (ok_t_l (ok_iload_n dJ6_bitCount_0f7a4_1 rfl))) (ok_t_n (ok_t_l (ok_iconst dJ6_bitCount_0f7a4_2 rfl)) (ok_t_n (ok_t_l (ok_iushr dJ6_bitCount_0f7a4_3)) (ok_t_l (ok_ldcw dJ6_bitCount_0f7a4_4 w_569))))) (ok_t_n (ok_t_n (ok_t_l (ok_iand dJ6_bitCount_0f7a4_7)) (ok_t_l (ok_isub dJ6_bitCount_0f7a4_8))) (ok_t_n (ok_t_l (ok_istore_n dJ6_bitCount_0f7a4_9 rfl)) (ok_t_n (ok_t_l (ok_iload_n dJ6_bitCount_0f7a4_10 rfl)) (ok_t_l (ok_ldcw dJ6_bitCount_0f7a4_11 w_570)))))) (ok_t_n (ok_t_n (ok_t_n (ok_t_l (ok_iand dJ6_bitCount_0f7a4_14)) (ok_t_l (ok_iload_n dJ6_bitCount_0f7a4_15 rfl))) (ok_t_n (ok_t_l (ok_iconst dJ6_bitCount_0f7a4_16 rfl)) (ok_t_n (ok_t_l (ok_iushr dJ6_bitCount_0f7a4_17)) (ok_t_l (ok_ldcw dJ6_bitCount_0f7a4_18 w_570))))) (ok_t_n (ok_t_n (ok_t_l (ok_iand dJ6_bitCount_0f7a4_21)) (ok_t_n (ok_t_l (ok_iadd dJ6_bitCount_0f7a4_22)) (ok_t_l (ok_istore_n dJ6_bitCount_0f7a4_23 rfl)))) (ok_t_n (ok_t_l (ok_iload_n dJ6_bitCount_0f7a4_24 rfl)) (ok_t_n (ok_t_l (ok_iload_n dJ6_bitCount_0f7a4_25 rfl)) (ok_t_l (ok_iconst dJ6_bitCount_0f7a4_26 rfl))))))) (ok_t_n (ok_t_n (ok_t_n (ok_t_n (ok_t_l (ok_iushr dJ6_bitCount_0f7a4_27)) (ok_t_l (ok_iadd dJ6_bitCount_0f7a4_28))) (ok_t_n (ok_t_l (ok_ldcw dJ6_bitCount_0f7a4_29 w_571)) (ok_t_n (ok_t_l (ok_iand dJ6_bitCount_0f7a4_32)) (ok_t_l (ok_istore_n dJ6_bitCount_0f7a4_33 rfl))))) (ok_t_n (ok_t_n (ok_t_l (ok_iload_n dJ6_bitCount_0f7a4_34 rfl)) (ok_t_l (ok_iload_n dJ6_bitCount_0f7a4_35 rfl))) (ok_t_n (ok_t_l (ok_bipush dJ6_bitCount_0f7a4_36 rfl)) (ok_t_n (ok_t_l (ok_iushr dJ6_bitCount_0f7a4_38)) (ok_t_l (ok_iadd dJ6_bitCount_0f7a4_39)))))) (ok_t_n (ok_t_n (ok_t_n (ok_t_l (ok_istore_n dJ6_bitCount_0f7a4_40 rfl)) (ok_t_l (ok_iload_n dJ6_bitCount_0f7a4_41 rfl))) (ok_t_n (ok_t_l (ok_iload_n dJ6_bitCount_0f7a4_42 rfl)) (ok_t_n (ok_t_l (ok_bipush dJ6_bitCount_0f7a4_43 rfl)) (ok_t_l (ok_iushr dJ6_bitCount_0f7a4_45))))) (ok_t_n (ok_t_n (ok_t_l (ok_iadd dJ6_bitCount_0f7a4_46)) (ok_t_n (ok_t_l (ok_istore_n dJ6_bitCount_0f7a4_47 rfl)) (ok_t_l (ok_iload_n dJ6_bitCount_0f7a4_48 rfl)))) (ok_t_n (ok_t_l (ok_bipush dJ6_bitCount_0f7a4_49 rfl)) (ok_t_n (ok_t_l (ok_iand dJ6_bitCount_0f7a4_51)) (ok_t_l (ok_ireturn dJ6_bitCount_0f7a4_52))))))))
theorem dJ9_abs_0f7a4_0 : decode cJ9_abs_0f7a4 0 = .ok (.iload_n 0, 1) := by decide +kernel
theorem dJ9_abs_0f7a4_1 : decode cJ9_abs_0f7a4 1 = .ok (.ifCond .ge 8, 3) := by decide +kernel
theorem dJ9_abs_0f7a4_4 : decode cJ9_abs_0f7a4 4 = .ok (.iload_n 0, 1) := by decide +kernel
theorem dJ9_abs_0f7a4_5 : decode cJ9_abs_0f7a4 5 = .ok (.ineg, 1) := by decide +kernel
theorem dJ9_abs_0f7a4_6 : decode cJ9_abs_0f7a4 6 = .ok (.goto 4, 3) := by decide +kernel
theorem dJ9_abs_0f7a4_9 : decode cJ9_abs_0f7a4 9 = .ok (.iload_n 0, 1) := by decide +kernel
theorem dJ9_abs_0f7a4_10 : decode cJ9_abs_0f7a4 10 = .ok (.ireturn, 1) := by decide +kernel
def g_J9_abs_0f7a4 : Nat → EA := (t_n 5 (t_n 1 (t_l 0 (a_iload 1 0)) (t_n 4 (t_l 1 (a_if 9 (fun x => decide (0 ≤ x)))) (t_l 4 (a_iload 1 0)))) (t_n 9 (t_n 6 (t_l 5 (a_i (fun x => .int (-x)))) (t_l 6 (a_goto 10))) (t_n 10 (t_l 9 (a_iload 1 0)) (t_l 10 a_iret))))
set_option maxRecDepth 100000 in
theorem k_J9_abs_0f7a4 (d : Nat) : ∀ pc, ev_Ok cJ9_abs_0f7a4 1 [] RJ9 lw_g lw_n lw_q vwCl false (ev_CO mt lw_g lw_n lw_q vwCl d) pc (g_J9_abs_0f7a4 pc) := (ok_t_n (ok_t_n (ok_t_l (ok_iload_n dJ9_abs_0f7a4_0 rfl)) (ok_t_n (ok_t_l (ok_if_ge dJ9_abs_0f7a4_1 rfl)) (ok_t_l (ok_iload_n dJ9_abs_0f7a4_4 rfl)))) (ok_t_n (ok_t_n (ok_t_l (ok_ineg dJ9_abs_0f7a4_5)) (ok_t_l (ok_goto dJ9_abs_0f7a4_6 rfl))) (ok_t_n (ok_t_l (ok_iload_n dJ9_abs_0f7a4_9 rfl)) (ok_t_l (ok_ireturn dJ9_abs_0f7a4_10)))))
theorem dJ9_max_7cf53_0 : decode cJ9_max_7cf53 0 = .ok (.iload_n 0, 1) := by decide +kernel
theorem dJ9_max_7cf53_1 : decode cJ9_max_7cf53 1 = .ok (.iload_n 1, 1) := by decide +kernel
theorem dJ9_max_7cf53_2 : decode cJ9_max_7cf53 2 = .ok (.if_icmp .lt 7, 3) := by decide +kernel
theorem dJ9_max_7cf53_5 : decode cJ9_max_7cf53 5 = .ok (.iload_n 0, 1) := by decide +kernel
theorem dJ9_max_7cf53_6 : decode cJ9_max_7cf53 6 = .ok (.goto 4, 3) := by decide +kernel
theorem dJ9_max_7cf53_9 : decode cJ9_max_7cf53 9 = .ok (.iload_n 1, 1) := by decide +kernel
theorem dJ9_max_7cf53_10 : decode cJ9_max_7cf53 10 = .ok (.ireturn, 1) := by decide +kernel
def g_J9_max_7cf53 : Nat → EA := (t_n 5 (t_n 1 (t_l 0 (a_iload 1 0)) (t_n 2 (t_l 1 (a_iload 1 1)) (t_l 2 (a_ic 9 (fun x y => decide (x < y)))))) (t_n 9 (t_n 6 (t_l 5 (a_iload 1 0)) (t_l 6 (a_goto 10))) (t_n 10 (t_l 9 (a_iload 1 1)) (t_l 10 a_iret))))
set_option maxRecDepth 100000 in
theorem k_J9_max_7cf53 (d : Nat) : ∀ pc, ev_Ok cJ9_max_7cf53 2 [] RJ9 lw_g lw_n lw_q vwCl false (ev_CO mt lw_g lw_n lw_q vwCl d) pc (g_J9_max_7cf53 pc) := (ok_t_n (ok_t_n (ok_t_l (ok_iload_n dJ9_max_7cf53_0 rfl)) (ok_t_n (ok_t_l (ok_iload_n dJ9_max_7cf53_1 rfl)) (ok_t_l (ok_icmp_lt dJ9_max_7cf53_2 rfl)))) (ok_t_n (ok_t_n (ok_t_l (ok_iload_n dJ9_max_7cf53_5 rfl)) (ok_t_l (ok_goto dJ9_max_7cf53_6 rfl))) (ok_t_n (ok_t_l (ok_iload_n dJ9_max_7cf53_9 rfl)) (ok_t_l (ok_ireturn dJ9_max_7cf53_10)))))
theorem dL_object_0 : decode cL_object 0 = .ok (.aload_n 1, 1) := by decide +kernel
theorem dL_object_1 : decode cL_object 1 = .ok (.iconst 0, 1) := by decide +kernel
theorem dL_object_2 : decode cL_object 2 = .ok (.aload_n 0, 1) := by decide +kernel
theorem dL_object_3 : decode cL_object 3 = .ok (.invokevirtual 7, 3) := by decide +kernel
theorem dL_object_6 : decode cL_object 6 = .ok (.i2l, 1) := by decide +kernel
theorem dL_object_7 : decode cL_object 7 = .ok (.lastore, 1) := by decide +kernel
theorem dL_object_8 : decode cL_object 8 = .ok (.goto 6, 3) := by decide +kernel
theorem dL_object_11 : decode cL_object 11 = .ok (.astore_n 2, 1) := by decide +kernel
theorem dL_object_12 : decode cL_object 12 = .ok (.iconst 1, 1) := by decide +kernel
theorem dL_object_13 : decode cL_object 13 = .ok (.ireturn, 1) := by decide +kernel
theorem dL_object_14 : decode cL_object 14 = .ok (.iconst 0, 1) := by decide +kernel
theorem dL_object_15 : decode cL_object 15 = .ok (.ireturn, 1) := by decide +kernel
theorem hd_L_object_3 : ∀ E q, ev_find [("java/lang/IllegalStateException", 12, 2)] E = some q → ev_HF cL_object 3 [(0, 8, 11, 13)] RL lw_g lw_n lw_q 3 E q := fun E q => (fun h => ev_find_1 h (fun e1 e2 => by cases e1; cases e2; exact ⟨0, 0, 8, 11, 13, rfl, by decide, by decide, by decide, w_1250, nst_73, by decide, Or.inl ⟨2, rfl, dL_object_11, rfl⟩, fun _ _ hk _ => absurd hk (Nat.not_lt_zero _)⟩) (fun h => by cases h))
def g_L_object : Nat → EA := (t_n 8 (t_n 3 (t_n 1 (t_l 0 (a_aload 1 1)) (t_n 2 (t_l 1 (a_push 1 (.int 0))) (t_l 2 (a_aload 1 0)))) (t_n 6 (t_l 3 (a_invH 161 1 (some 11) [("java/lang/IllegalStateException", 12, 2)])) (t_n 7 (t_l 6 (a_i (fun x => .long x.toInt64))) (t_l 7 a_lst)))) (t_n 13 (t_n 11 (t_l 8 (a_goto 14)) (t_n 12 (t_l 11 (a_astore 3 1 2)) (t_l 12 (a_push 1 (.int 1))))) (t_n 14 (t_l 13 a_iret) (t_n 15 (t_l 14 (a_push 1 (.int 0))) (t_l 15 a_iret)))))
set_option maxRecDepth 100000 in
theorem k_L_object (d : Nat) : ∀ pc, ev_Ok cL_object 3 [(0, 8, 11, 13)] RL lw_g lw_n lw_q vwCl false (ev_CO mt lw_g lw_n lw_q vwCl d) pc (g_L_object pc) := (ok_t_n (ok_t_n (ok_t_n (ok_t_l (ok_aload_n dL_object_0 rfl)) (ok_t_n (ok_t_l (ok_iconst dL_object_1 rfl)) (ok_t_l (ok_aload_n dL_object_2 rfl)))) (ok_t_n (ok_t_l (ok_invH (run_V (y := 161) (n := 0) (ci := 11) dL_object_3 cz_161 gdG cc_161 ci_161 w_1251 cm_161 cs_161 cd_161 cl_161 rfl rfl) hd_L_object_3)) (ok_t_n (ok_t_l (ok_i2l dL_object_6)) (ok_t_l (ok_lastore dL_object_7))))) (ok_t_n (ok_t_n (ok_t_l (ok_goto dL_object_8 rfl)) (ok_t_n (ok_t_l (ok_astore_n dL_object_11 rfl)) (ok_t_l (ok_iconst dL_object_12 rfl)))) (ok_t_n (ok_t_l (ok_ireturn dL_object_13)) (ok_t_n (ok_t_l (ok_iconst dL_object_14 rfl)) (ok_t_l (ok_ireturn dL_object_15))))))
theorem dL_section_0 : decode cL_section 0 = .ok (.aload 4, 2) := by decide +kernel
theorem dL_section_2 : decode cL_section 2 = .ok (.iconst 0, 1) := by decide +kernel
theorem dL_section_3 : decode cL_section 3 = .ok (.aload_n 0, 1) := by decide +kernel
theorem dL_section_4 : decode cL_section 4 = .ok (.iload_n 1, 1) := by decide +kernel
theorem dL_section_5 : decode cL_section 5 = .ok (.iload_n 2, 1) := by decide +kernel
theorem dL_section_6 : decode cL_section 6 = .ok (.iload_n 3, 1) := by decide +kernel
theorem dL_section_7 : decode cL_section 7 = .ok (.invokevirtual 15, 3) := by decide +kernel
theorem dL_section_10 : decode cL_section 10 = .ok (.i2l, 1) := by decide +kernel
theorem dL_section_11 : decode cL_section 11 = .ok (.lastore, 1) := by decide +kernel
theorem dL_section_12 : decode cL_section 12 = .ok (.goto 15, 3) := by decide +kernel
theorem dL_section_15 : decode cL_section 15 = .ok (.astore 5, 2) := by decide +kernel
theorem dL_section_17 : decode cL_section 17 = .ok (.iconst 1, 1) := by decide +kernel
theorem dL_section_18 : decode cL_section 18 = .ok (.ireturn, 1) := by decide +kernel
theorem dL_section_19 : decode cL_section 19 = .ok (.astore 5, 2) := by decide +kernel
theorem dL_section_21 : decode cL_section 21 = .ok (.iconst 2, 1) := by decide +kernel
theorem dL_section_22 : decode cL_section 22 = .ok (.ireturn, 1) := by decide +kernel
theorem dL_section_23 : decode cL_section 23 = .ok (.astore 5, 2) := by decide +kernel
theorem dL_section_25 : decode cL_section 25 = .ok (.iconst 3, 1) := by decide +kernel
theorem dL_section_26 : decode cL_section 26 = .ok (.ireturn, 1) := by decide +kernel
theorem dL_section_27 : decode cL_section 27 = .ok (.iconst 0, 1) := by decide +kernel
theorem dL_section_28 : decode cL_section 28 = .ok (.ireturn, 1) := by decide +kernel
theorem hd_L_section_7 : ∀ E q, ev_find [("java/lang/IndexOutOfBoundsException", 17, 5), ("java/lang/IllegalArgumentException", 21, 5), ("java/lang/IllegalStateException", 25, 5)] E = some q → ev_HF cL_section 6 [(0, 12, 15, 19), (0, 12, 19, 21), (0, 12, 23, 13)] RL lw_g lw_n lw_q 7 E q := fun E q => (fun h => ev_find_1 h (fun e1 e2 => by cases e1; cases e2; exact ⟨0, 0, 12, 15, 19, rfl, by decide, by decide, by decide, w_1267, nst_72, by decide, Or.inr ⟨dL_section_15, rfl⟩, fun _ _ hk _ => absurd hk (Nat.not_lt_zero _)⟩) (fun h => ev_find_1 h (fun e1 e2 => by cases e1; cases e2; exact ⟨1, 0, 12, 19, 21, rfl, by decide, by decide, by decide, w_1268, nst_65, by decide, Or.inr ⟨dL_section_19, rfl⟩, fun k' z hk hz => match k', hk, hz with | 0, _, hz => by cases hz; exact ⟨by decide, "java/lang/IndexOutOfBoundsException", w_1267, nc_1⟩ | k + 1, hk, _ => absurd hk (by omega)⟩) (fun h => ev_find_1 h (fun e1 e2 => by cases e1; cases e2; exact ⟨2, 0, 12, 23, 13, rfl, by decide, by decide, by decide, w_1250, nst_73, by decide, Or.inr ⟨dL_section_23, rfl⟩, fun k' z hk hz => match k', hk, hz with | 0, _, hz => by cases hz; exact ⟨by decide, "java/lang/IndexOutOfBoundsException", w_1267, nc_3⟩ | 1, _, hz => by cases hz; exact ⟨by decide, "java/lang/IllegalArgumentException", w_1268, nc_2⟩ | k + 2, hk, _ => absurd hk (by omega)⟩) (fun h => by cases h))))
def g_L_section : Nat → EA := (t_n 15 (t_n 6 (t_n 3 (t_n 2 (t_l 0 (a_aload 2 4)) (t_l 2 (a_push 1 (.int 0)))) (t_n 4 (t_l 3 (a_aload 1 0)) (t_n 5 (t_l 4 (a_iload 1 1)) (t_l 5 (a_iload 1 2))))) (t_n 10 (t_n 7 (t_l 6 (a_iload 1 3)) (t_l 7 (a_invH 162 4 (some 11) [("java/lang/IndexOutOfBoundsException", 17, 5), ("java/lang/IllegalArgumentException", 21, 5), ("java/lang/IllegalStateException", 25, 5)]))) (t_n 11 (t_l 10 (a_i (fun x => .long x.toInt64))) (t_n 12 (t_l 11 a_lst) (t_l 12 (a_goto 27)))))) (t_n 22 (t_n 18 (t_n 17 (t_l 15 (a_astore 6 2 5)) (t_l 17 (a_push 1 (.int 1)))) (t_n 19 (t_l 18 a_iret) (t_n 21 (t_l 19 (a_astore 6 2 5)) (t_l 21 (a_push 1 (.int 2)))))) (t_n 26 (t_n 23 (t_l 22 a_iret) (t_n 25 (t_l 23 (a_astore 6 2 5)) (t_l 25 (a_push 1 (.int 3))))) (t_n 27 (t_l 26 a_iret) (t_n 28 (t_l 27 (a_push 1 (.int 0))) (t_l 28 a_iret))))))
set_option maxRecDepth 100000 in
theorem k_L_section (d : Nat) : ∀ pc, ev_Ok cL_section 6 [(0, 12, 15, 19), (0, 12, 19, 21), (0, 12, 23, 13)] RL lw_g lw_n lw_q vwCl false (ev_CO mt lw_g lw_n lw_q vwCl d) pc (g_L_section pc) := (ok_t_n (ok_t_n (ok_t_n (ok_t_n (ok_t_l (ok_aload dL_section_0)) (ok_t_l (ok_iconst dL_section_2 rfl))) (ok_t_n (ok_t_l (ok_aload_n dL_section_3 rfl)) (ok_t_n (ok_t_l (ok_iload_n dL_section_4 rfl)) (ok_t_l (ok_iload_n dL_section_5 rfl))))) (ok_t_n (ok_t_n (ok_t_l (ok_iload_n dL_section_6 rfl)) (ok_t_l (ok_invH (run_V (y := 162) (n := 3) (ci := 11) dL_section_7 cz_162 gdG cc_162 ci_162 w_1269 cm_162 cs_162 cd_162 cl_162 rfl rfl) hd_L_section_7))) (ok_t_n (ok_t_l (ok_i2l dL_section_10)) (ok_t_n (ok_t_l (ok_lastore dL_section_11)) (ok_t_l (ok_goto dL_section_12 rfl)))))) (ok_t_n (ok_t_n (ok_t_n (ok_t_l (ok_astore dL_section_15)) (ok_t_l (ok_iconst dL_section_17 rfl))) (ok_t_n (ok_t_l (ok_ireturn dL_section_18)) (ok_t_n (ok_t_l (ok_astore dL_section_19)) (ok_t_l (ok_iconst dL_section_21 rfl))))) (ok_t_n (ok_t_n (ok_t_l (ok_ireturn dL_section_22)) (ok_t_n (ok_t_l (ok_astore dL_section_23)) (ok_t_l (ok_iconst dL_section_25 rfl)))) (ok_t_n (ok_t_l (ok_ireturn dL_section_26)) (ok_t_n (ok_t_l (ok_iconst dL_section_27 rfl)) (ok_t_l (ok_ireturn dL_section_28)))))))
theorem dL_fill_0 : decode cL_fill 0 = .ok (.aload_n 3, 1) := by decide +kernel
theorem dL_fill_1 : decode cL_fill 1 = .ok (.iconst 0, 1) := by decide +kernel
theorem dL_fill_2 : decode cL_fill 2 = .ok (.aload_n 0, 1) := by decide +kernel
theorem dL_fill_3 : decode cL_fill 3 = .ok (.iload_n 1, 1) := by decide +kernel
theorem dL_fill_4 : decode cL_fill 4 = .ok (.iload_n 2, 1) := by decide +kernel
theorem dL_fill_5 : decode cL_fill 5 = .ok (.invokevirtual 23, 3) := by decide +kernel
theorem dL_fill_8 : decode cL_fill 8 = .ok (.i2l, 1) := by decide +kernel
theorem dL_fill_9 : decode cL_fill 9 = .ok (.lastore, 1) := by decide +kernel
theorem dL_fill_10 : decode cL_fill 10 = .ok (.goto 15, 3) := by decide +kernel
theorem dL_fill_13 : decode cL_fill 13 = .ok (.astore 4, 2) := by decide +kernel
theorem dL_fill_15 : decode cL_fill 15 = .ok (.iconst 1, 1) := by decide +kernel
theorem dL_fill_16 : decode cL_fill 16 = .ok (.ireturn, 1) := by decide +kernel
theorem dL_fill_17 : decode cL_fill 17 = .ok (.astore 4, 2) := by decide +kernel
theorem dL_fill_19 : decode cL_fill 19 = .ok (.iconst 2, 1) := by decide +kernel
theorem dL_fill_20 : decode cL_fill 20 = .ok (.ireturn, 1) := by decide +kernel
theorem dL_fill_21 : decode cL_fill 21 = .ok (.astore 4, 2) := by decide +kernel
theorem dL_fill_23 : decode cL_fill 23 = .ok (.iconst 3, 1) := by decide +kernel
theorem dL_fill_24 : decode cL_fill 24 = .ok (.ireturn, 1) := by decide +kernel
theorem dL_fill_25 : decode cL_fill 25 = .ok (.iconst 0, 1) := by decide +kernel
theorem dL_fill_26 : decode cL_fill 26 = .ok (.ireturn, 1) := by decide +kernel
theorem hd_L_fill_5 : ∀ E q, ev_find [("java/lang/IndexOutOfBoundsException", 15, 4), ("java/lang/IllegalArgumentException", 19, 4), ("java/lang/IllegalStateException", 23, 4)] E = some q → ev_HF cL_fill 5 [(0, 10, 13, 19), (0, 10, 17, 21), (0, 10, 21, 13)] RL lw_g lw_n lw_q 5 E q := fun E q => (fun h => ev_find_1 h (fun e1 e2 => by cases e1; cases e2; exact ⟨0, 0, 10, 13, 19, rfl, by decide, by decide, by decide, w_1267, nst_72, by decide, Or.inr ⟨dL_fill_13, rfl⟩, fun _ _ hk _ => absurd hk (Nat.not_lt_zero _)⟩) (fun h => ev_find_1 h (fun e1 e2 => by cases e1; cases e2; exact ⟨1, 0, 10, 17, 21, rfl, by decide, by decide, by decide, w_1268, nst_65, by decide, Or.inr ⟨dL_fill_17, rfl⟩, fun k' z hk hz => match k', hk, hz with | 0, _, hz => by cases hz; exact ⟨by decide, "java/lang/IndexOutOfBoundsException", w_1267, nc_1⟩ | k + 1, hk, _ => absurd hk (by omega)⟩) (fun h => ev_find_1 h (fun e1 e2 => by cases e1; cases e2; exact ⟨2, 0, 10, 21, 13, rfl, by decide, by decide, by decide, w_1250, nst_73, by decide, Or.inr ⟨dL_fill_21, rfl⟩, fun k' z hk hz => match k', hk, hz with | 0, _, hz => by cases hz; exact ⟨by decide, "java/lang/IndexOutOfBoundsException", w_1267, nc_3⟩ | 1, _, hz => by cases hz; exact ⟨by decide, "java/lang/IllegalArgumentException", w_1268, nc_2⟩ | k + 2, hk, _ => absurd hk (by omega)⟩) (fun h => by cases h))))
def g_L_fill : Nat → EA := (t_n 15 (t_n 5 (t_n 2 (t_n 1 (t_l 0 (a_aload 1 3)) (t_l 1 (a_push 1 (.int 0)))) (t_n 3 (t_l 2 (a_aload 1 0)) (t_n 4 (t_l 3 (a_iload 1 1)) (t_l 4 (a_iload 1 2))))) (t_n 9 (t_n 8 (t_l 5 (a_invH 163 3 (some 11) [("java/lang/IndexOutOfBoundsException", 15, 4), ("java/lang/IllegalArgumentException", 19, 4), ("java/lang/IllegalStateException", 23, 4)])) (t_l 8 (a_i (fun x => .long x.toInt64)))) (t_n 10 (t_l 9 a_lst) (t_n 13 (t_l 10 (a_goto 25)) (t_l 13 (a_astore 5 2 4)))))) (t_n 21 (t_n 17 (t_n 16 (t_l 15 (a_push 1 (.int 1))) (t_l 16 a_iret)) (t_n 19 (t_l 17 (a_astore 5 2 4)) (t_n 20 (t_l 19 (a_push 1 (.int 2))) (t_l 20 a_iret)))) (t_n 24 (t_n 23 (t_l 21 (a_astore 5 2 4)) (t_l 23 (a_push 1 (.int 3)))) (t_n 25 (t_l 24 a_iret) (t_n 26 (t_l 25 (a_push 1 (.int 0))) (t_l 26 a_iret))))))
set_option maxRecDepth 100000 in
theorem k_L_fill (d : Nat) : ∀ pc, ev_Ok cL_fill 5 [(0, 10, 13, 19), (0, 10, 17, 21), (0, 10, 21, 13)] RL lw_g lw_n lw_q vwCl false (ev_CO mt lw_g lw_n lw_q vwCl d) pc (g_L_fill pc) := (ok_t_n (ok_t_n (ok_t_n (ok_t_n (ok_t_l (ok_aload_n dL_fill_0 rfl)) (ok_t_l (ok_iconst dL_fill_1 rfl))) (ok_t_n (ok_t_l (ok_aload_n dL_fill_2 rfl)) (ok_t_n (ok_t_l (ok_iload_n dL_fill_3 rfl)) (ok_t_l (ok_iload_n dL_fill_4 rfl))))) (ok_t_n (ok_t_n (ok_t_l (ok_invH (run_V (y := 163) (n := 2) (ci := 11) dL_fill_5 cz_163 gdG cc_163 ci_163 w_1290 cm_163 cs_163 cd_163 cl_163 rfl rfl) hd_L_fill_5)) (ok_t_l (ok_i2l dL_fill_8))) (ok_t_n (ok_t_l (ok_lastore dL_fill_9)) (ok_t_n (ok_t_l (ok_goto dL_fill_10 rfl)) (ok_t_l (ok_astore dL_fill_13)))))) (ok_t_n (ok_t_n (ok_t_n (ok_t_l (ok_iconst dL_fill_15 rfl)) (ok_t_l (ok_ireturn dL_fill_16))) (ok_t_n (ok_t_l (ok_astore dL_fill_17)) (ok_t_n (ok_t_l (ok_iconst dL_fill_19 rfl)) (ok_t_l (ok_ireturn dL_fill_20))))) (ok_t_n (ok_t_n (ok_t_l (ok_astore dL_fill_21)) (ok_t_l (ok_iconst dL_fill_23 rfl))) (ok_t_n (ok_t_l (ok_ireturn dL_fill_24)) (ok_t_n (ok_t_l (ok_iconst dL_fill_25 rfl)) (ok_t_l (ok_ireturn dL_fill_26)))))))
theorem dL_word_0 : decode cL_word 0 = .ok (.aload 5, 2) := by decide +kernel
theorem dL_word_2 : decode cL_word 2 = .ok (.iconst 0, 1) := by decide +kernel
theorem dL_word_3 : decode cL_word 3 = .ok (.aload_n 0, 1) := by decide +kernel
theorem dL_word_4 : decode cL_word 4 = .ok (.iload_n 1, 1) := by decide +kernel
theorem dL_word_5 : decode cL_word 5 = .ok (.iload_n 2, 1) := by decide +kernel
theorem dL_word_6 : decode cL_word 6 = .ok (.iload_n 3, 1) := by decide +kernel
theorem dL_word_7 : decode cL_word 7 = .ok (.iload 4, 2) := by decide +kernel
theorem dL_word_9 : decode cL_word 9 = .ok (.invokevirtual 27, 3) := by decide +kernel
theorem dL_word_12 : decode cL_word 12 = .ok (.i2l, 1) := by decide +kernel
theorem dL_word_13 : decode cL_word 13 = .ok (.lastore, 1) := by decide +kernel
theorem dL_word_14 : decode cL_word 14 = .ok (.goto 15, 3) := by decide +kernel
theorem dL_word_17 : decode cL_word 17 = .ok (.astore 6, 2) := by decide +kernel
theorem dL_word_19 : decode cL_word 19 = .ok (.iconst 1, 1) := by decide +kernel
theorem dL_word_20 : decode cL_word 20 = .ok (.ireturn, 1) := by decide +kernel
theorem dL_word_21 : decode cL_word 21 = .ok (.astore 6, 2) := by decide +kernel
theorem dL_word_23 : decode cL_word 23 = .ok (.iconst 2, 1) := by decide +kernel
theorem dL_word_24 : decode cL_word 24 = .ok (.ireturn, 1) := by decide +kernel
theorem dL_word_25 : decode cL_word 25 = .ok (.astore 6, 2) := by decide +kernel
theorem dL_word_27 : decode cL_word 27 = .ok (.iconst 3, 1) := by decide +kernel
theorem dL_word_28 : decode cL_word 28 = .ok (.ireturn, 1) := by decide +kernel
theorem dL_word_29 : decode cL_word 29 = .ok (.iconst 0, 1) := by decide +kernel
theorem dL_word_30 : decode cL_word 30 = .ok (.ireturn, 1) := by decide +kernel
theorem hd_L_word_9 : ∀ E q, ev_find [("java/lang/IndexOutOfBoundsException", 19, 6), ("java/lang/IllegalArgumentException", 23, 6), ("java/lang/IllegalStateException", 27, 6)] E = some q → ev_HF cL_word 7 [(0, 14, 17, 19), (0, 14, 21, 21), (0, 14, 25, 13)] RL lw_g lw_n lw_q 9 E q := fun E q => (fun h => ev_find_1 h (fun e1 e2 => by cases e1; cases e2; exact ⟨0, 0, 14, 17, 19, rfl, by decide, by decide, by decide, w_1267, nst_72, by decide, Or.inr ⟨dL_word_17, rfl⟩, fun _ _ hk _ => absurd hk (Nat.not_lt_zero _)⟩) (fun h => ev_find_1 h (fun e1 e2 => by cases e1; cases e2; exact ⟨1, 0, 14, 21, 21, rfl, by decide, by decide, by decide, w_1268, nst_65, by decide, Or.inr ⟨dL_word_21, rfl⟩, fun k' z hk hz => match k', hk, hz with | 0, _, hz => by cases hz; exact ⟨by decide, "java/lang/IndexOutOfBoundsException", w_1267, nc_1⟩ | k + 1, hk, _ => absurd hk (by omega)⟩) (fun h => ev_find_1 h (fun e1 e2 => by cases e1; cases e2; exact ⟨2, 0, 14, 25, 13, rfl, by decide, by decide, by decide, w_1250, nst_73, by decide, Or.inr ⟨dL_word_25, rfl⟩, fun k' z hk hz => match k', hk, hz with | 0, _, hz => by cases hz; exact ⟨by decide, "java/lang/IndexOutOfBoundsException", w_1267, nc_3⟩ | 1, _, hz => by cases hz; exact ⟨by decide, "java/lang/IllegalArgumentException", w_1268, nc_2⟩ | k + 2, hk, _ => absurd hk (by omega)⟩) (fun h => by cases h))))
def g_L_word : Nat → EA := (t_n 17 (t_n 6 (t_n 3 (t_n 2 (t_l 0 (a_aload 2 5)) (t_l 2 (a_push 1 (.int 0)))) (t_n 4 (t_l 3 (a_aload 1 0)) (t_n 5 (t_l 4 (a_iload 1 1)) (t_l 5 (a_iload 1 2))))) (t_n 12 (t_n 7 (t_l 6 (a_iload 1 3)) (t_n 9 (t_l 7 (a_iload 2 4)) (t_l 9 (a_invH 164 5 (some 11) [("java/lang/IndexOutOfBoundsException", 19, 6), ("java/lang/IllegalArgumentException", 23, 6), ("java/lang/IllegalStateException", 27, 6)])))) (t_n 13 (t_l 12 (a_i (fun x => .long x.toInt64))) (t_n 14 (t_l 13 a_lst) (t_l 14 (a_goto 29)))))) (t_n 24 (t_n 20 (t_n 19 (t_l 17 (a_astore 7 2 6)) (t_l 19 (a_push 1 (.int 1)))) (t_n 21 (t_l 20 a_iret) (t_n 23 (t_l 21 (a_astore 7 2 6)) (t_l 23 (a_push 1 (.int 2)))))) (t_n 28 (t_n 25 (t_l 24 a_iret) (t_n 27 (t_l 25 (a_astore 7 2 6)) (t_l 27 (a_push 1 (.int 3))))) (t_n 29 (t_l 28 a_iret) (t_n 30 (t_l 29 (a_push 1 (.int 0))) (t_l 30 a_iret))))))
set_option maxRecDepth 100000 in
theorem k_L_word (d : Nat) : ∀ pc, ev_Ok cL_word 7 [(0, 14, 17, 19), (0, 14, 21, 21), (0, 14, 25, 13)] RL lw_g lw_n lw_q vwCl false (ev_CO mt lw_g lw_n lw_q vwCl d) pc (g_L_word pc) := (ok_t_n (ok_t_n (ok_t_n (ok_t_n (ok_t_l (ok_aload dL_word_0)) (ok_t_l (ok_iconst dL_word_2 rfl))) (ok_t_n (ok_t_l (ok_aload_n dL_word_3 rfl)) (ok_t_n (ok_t_l (ok_iload_n dL_word_4 rfl)) (ok_t_l (ok_iload_n dL_word_5 rfl))))) (ok_t_n (ok_t_n (ok_t_l (ok_iload_n dL_word_6 rfl)) (ok_t_n (ok_t_l (ok_iload dL_word_7)) (ok_t_l (ok_invH (run_V (y := 164) (n := 4) (ci := 11) dL_word_9 cz_164 gdG cc_164 ci_164 w_1309 cm_164 cs_164 cd_164 cl_164 rfl rfl) hd_L_word_9)))) (ok_t_n (ok_t_l (ok_i2l dL_word_12)) (ok_t_n (ok_t_l (ok_lastore dL_word_13)) (ok_t_l (ok_goto dL_word_14 rfl)))))) (ok_t_n (ok_t_n (ok_t_n (ok_t_l (ok_astore dL_word_17)) (ok_t_l (ok_iconst dL_word_19 rfl))) (ok_t_n (ok_t_l (ok_ireturn dL_word_20)) (ok_t_n (ok_t_l (ok_astore dL_word_21)) (ok_t_l (ok_iconst dL_word_23 rfl))))) (ok_t_n (ok_t_n (ok_t_l (ok_ireturn dL_word_24)) (ok_t_n (ok_t_l (ok_astore dL_word_25)) (ok_t_l (ok_iconst dL_word_27 rfl)))) (ok_t_n (ok_t_l (ok_ireturn dL_word_28)) (ok_t_n (ok_t_l (ok_iconst dL_word_29 rfl)) (ok_t_l (ok_ireturn dL_word_30)))))))
theorem dL_jump_0 : decode cL_jump 0 = .ok (.aload 4, 2) := by decide +kernel
theorem dL_jump_2 : decode cL_jump 2 = .ok (.iconst 0, 1) := by decide +kernel
theorem dL_jump_3 : decode cL_jump 3 = .ok (.aload_n 0, 1) := by decide +kernel
theorem dL_jump_4 : decode cL_jump 4 = .ok (.iload_n 1, 1) := by decide +kernel
theorem dL_jump_5 : decode cL_jump 5 = .ok (.iload_n 2, 1) := by decide +kernel
theorem dL_jump_6 : decode cL_jump 6 = .ok (.iload_n 3, 1) := by decide +kernel
theorem dL_jump_7 : decode cL_jump 7 = .ok (.invokevirtual 31, 3) := by decide +kernel
theorem dL_jump_10 : decode cL_jump 10 = .ok (.i2l, 1) := by decide +kernel
theorem dL_jump_11 : decode cL_jump 11 = .ok (.lastore, 1) := by decide +kernel
theorem dL_jump_12 : decode cL_jump 12 = .ok (.goto 15, 3) := by decide +kernel
theorem dL_jump_15 : decode cL_jump 15 = .ok (.astore 5, 2) := by decide +kernel
theorem dL_jump_17 : decode cL_jump 17 = .ok (.iconst 1, 1) := by decide +kernel
theorem dL_jump_18 : decode cL_jump 18 = .ok (.ireturn, 1) := by decide +kernel
theorem dL_jump_19 : decode cL_jump 19 = .ok (.astore 5, 2) := by decide +kernel
theorem dL_jump_21 : decode cL_jump 21 = .ok (.iconst 2, 1) := by decide +kernel
theorem dL_jump_22 : decode cL_jump 22 = .ok (.ireturn, 1) := by decide +kernel
theorem dL_jump_23 : decode cL_jump 23 = .ok (.astore 5, 2) := by decide +kernel
theorem dL_jump_25 : decode cL_jump 25 = .ok (.iconst 3, 1) := by decide +kernel
theorem dL_jump_26 : decode cL_jump 26 = .ok (.ireturn, 1) := by decide +kernel
theorem dL_jump_27 : decode cL_jump 27 = .ok (.iconst 0, 1) := by decide +kernel
theorem dL_jump_28 : decode cL_jump 28 = .ok (.ireturn, 1) := by decide +kernel
theorem hd_L_jump_7 : ∀ E q, ev_find [("java/lang/IndexOutOfBoundsException", 17, 5), ("java/lang/IllegalArgumentException", 21, 5), ("java/lang/IllegalStateException", 25, 5)] E = some q → ev_HF cL_jump 6 [(0, 12, 15, 19), (0, 12, 19, 21), (0, 12, 23, 13)] RL lw_g lw_n lw_q 7 E q := fun E q => (fun h => ev_find_1 h (fun e1 e2 => by cases e1; cases e2; exact ⟨0, 0, 12, 15, 19, rfl, by decide, by decide, by decide, w_1267, nst_72, by decide, Or.inr ⟨dL_jump_15, rfl⟩, fun _ _ hk _ => absurd hk (Nat.not_lt_zero _)⟩) (fun h => ev_find_1 h (fun e1 e2 => by cases e1; cases e2; exact ⟨1, 0, 12, 19, 21, rfl, by decide, by decide, by decide, w_1268, nst_65, by decide, Or.inr ⟨dL_jump_19, rfl⟩, fun k' z hk hz => match k', hk, hz with | 0, _, hz => by cases hz; exact ⟨by decide, "java/lang/IndexOutOfBoundsException", w_1267, nc_1⟩ | k + 1, hk, _ => absurd hk (by omega)⟩) (fun h => ev_find_1 h (fun e1 e2 => by cases e1; cases e2; exact ⟨2, 0, 12, 23, 13, rfl, by decide, by decide, by decide, w_1250, nst_73, by decide, Or.inr ⟨dL_jump_23, rfl⟩, fun k' z hk hz => match k', hk, hz with | 0, _, hz => by cases hz; exact ⟨by decide, "java/lang/IndexOutOfBoundsException", w_1267, nc_3⟩ | 1, _, hz => by cases hz; exact ⟨by decide, "java/lang/IllegalArgumentException", w_1268, nc_2⟩ | k + 2, hk, _ => absurd hk (by omega)⟩) (fun h => by cases h))))
def g_L_jump : Nat → EA := (t_n 15 (t_n 6 (t_n 3 (t_n 2 (t_l 0 (a_aload 2 4)) (t_l 2 (a_push 1 (.int 0)))) (t_n 4 (t_l 3 (a_aload 1 0)) (t_n 5 (t_l 4 (a_iload 1 1)) (t_l 5 (a_iload 1 2))))) (t_n 10 (t_n 7 (t_l 6 (a_iload 1 3)) (t_l 7 (a_invH 165 4 (some 11) [("java/lang/IndexOutOfBoundsException", 17, 5), ("java/lang/IllegalArgumentException", 21, 5), ("java/lang/IllegalStateException", 25, 5)]))) (t_n 11 (t_l 10 (a_i (fun x => .long x.toInt64))) (t_n 12 (t_l 11 a_lst) (t_l 12 (a_goto 27)))))) (t_n 22 (t_n 18 (t_n 17 (t_l 15 (a_astore 6 2 5)) (t_l 17 (a_push 1 (.int 1)))) (t_n 19 (t_l 18 a_iret) (t_n 21 (t_l 19 (a_astore 6 2 5)) (t_l 21 (a_push 1 (.int 2)))))) (t_n 26 (t_n 23 (t_l 22 a_iret) (t_n 25 (t_l 23 (a_astore 6 2 5)) (t_l 25 (a_push 1 (.int 3))))) (t_n 27 (t_l 26 a_iret) (t_n 28 (t_l 27 (a_push 1 (.int 0))) (t_l 28 a_iret))))))
set_option maxRecDepth 100000 in
theorem k_L_jump (d : Nat) : ∀ pc, ev_Ok cL_jump 6 [(0, 12, 15, 19), (0, 12, 19, 21), (0, 12, 23, 13)] RL lw_g lw_n lw_q vwCl false (ev_CO mt lw_g lw_n lw_q vwCl d) pc (g_L_jump pc) := (ok_t_n (ok_t_n (ok_t_n (ok_t_n (ok_t_l (ok_aload dL_jump_0)) (ok_t_l (ok_iconst dL_jump_2 rfl))) (ok_t_n (ok_t_l (ok_aload_n dL_jump_3 rfl)) (ok_t_n (ok_t_l (ok_iload_n dL_jump_4 rfl)) (ok_t_l (ok_iload_n dL_jump_5 rfl))))) (ok_t_n (ok_t_n (ok_t_l (ok_iload_n dL_jump_6 rfl)) (ok_t_l (ok_invH (run_V (y := 165) (n := 3) (ci := 11) dL_jump_7 cz_165 gdG cc_165 ci_165 w_1325 cm_165 cs_165 cd_165 cl_165 rfl rfl) hd_L_jump_7))) (ok_t_n (ok_t_l (ok_i2l dL_jump_10)) (ok_t_n (ok_t_l (ok_lastore dL_jump_11)) (ok_t_l (ok_goto dL_jump_12 rfl)))))) (ok_t_n (ok_t_n (ok_t_n (ok_t_l (ok_astore dL_jump_15)) (ok_t_l (ok_iconst dL_jump_17 rfl))) (ok_t_n (ok_t_l (ok_ireturn dL_jump_18)) (ok_t_n (ok_t_l (ok_astore dL_jump_19)) (ok_t_l (ok_iconst dL_jump_21 rfl))))) (ok_t_n (ok_t_n (ok_t_l (ok_ireturn dL_jump_22)) (ok_t_n (ok_t_l (ok_astore dL_jump_23)) (ok_t_l (ok_iconst dL_jump_25 rfl)))) (ok_t_n (ok_t_l (ok_ireturn dL_jump_26)) (ok_t_n (ok_t_l (ok_iconst dL_jump_27 rfl)) (ok_t_l (ok_ireturn dL_jump_28)))))))
theorem dL_define_0 : decode cL_define 0 = .ok (.aload 5, 2) := by decide +kernel
theorem dL_define_2 : decode cL_define 2 = .ok (.iconst 0, 1) := by decide +kernel
theorem dL_define_3 : decode cL_define 3 = .ok (.aload_n 0, 1) := by decide +kernel
theorem dL_define_4 : decode cL_define 4 = .ok (.iload_n 1, 1) := by decide +kernel
theorem dL_define_5 : decode cL_define 5 = .ok (.iload_n 2, 1) := by decide +kernel
theorem dL_define_6 : decode cL_define 6 = .ok (.iload_n 3, 1) := by decide +kernel
theorem dL_define_7 : decode cL_define 7 = .ok (.iload 4, 2) := by decide +kernel
theorem dL_define_9 : decode cL_define 9 = .ok (.invokevirtual 34, 3) := by decide +kernel
theorem dL_define_12 : decode cL_define 12 = .ok (.i2l, 1) := by decide +kernel
theorem dL_define_13 : decode cL_define 13 = .ok (.lastore, 1) := by decide +kernel
theorem dL_define_14 : decode cL_define 14 = .ok (.goto 15, 3) := by decide +kernel
theorem dL_define_17 : decode cL_define 17 = .ok (.astore 6, 2) := by decide +kernel
theorem dL_define_19 : decode cL_define 19 = .ok (.iconst 1, 1) := by decide +kernel
theorem dL_define_20 : decode cL_define 20 = .ok (.ireturn, 1) := by decide +kernel
theorem dL_define_21 : decode cL_define 21 = .ok (.astore 6, 2) := by decide +kernel
theorem dL_define_23 : decode cL_define 23 = .ok (.iconst 2, 1) := by decide +kernel
theorem dL_define_24 : decode cL_define 24 = .ok (.ireturn, 1) := by decide +kernel
theorem dL_define_25 : decode cL_define 25 = .ok (.astore 6, 2) := by decide +kernel
theorem dL_define_27 : decode cL_define 27 = .ok (.iconst 3, 1) := by decide +kernel
theorem dL_define_28 : decode cL_define 28 = .ok (.ireturn, 1) := by decide +kernel
theorem dL_define_29 : decode cL_define 29 = .ok (.iconst 0, 1) := by decide +kernel
theorem dL_define_30 : decode cL_define 30 = .ok (.ireturn, 1) := by decide +kernel
theorem hd_L_define_9 : ∀ E q, ev_find [("java/lang/IndexOutOfBoundsException", 19, 6), ("java/lang/IllegalArgumentException", 23, 6), ("java/lang/IllegalStateException", 27, 6)] E = some q → ev_HF cL_define 7 [(0, 14, 17, 19), (0, 14, 21, 21), (0, 14, 25, 13)] RL lw_g lw_n lw_q 9 E q := fun E q => (fun h => ev_find_1 h (fun e1 e2 => by cases e1; cases e2; exact ⟨0, 0, 14, 17, 19, rfl, by decide, by decide, by decide, w_1267, nst_72, by decide, Or.inr ⟨dL_define_17, rfl⟩, fun _ _ hk _ => absurd hk (Nat.not_lt_zero _)⟩) (fun h => ev_find_1 h (fun e1 e2 => by cases e1; cases e2; exact ⟨1, 0, 14, 21, 21, rfl, by decide, by decide, by decide, w_1268, nst_65, by decide, Or.inr ⟨dL_define_21, rfl⟩, fun k' z hk hz => match k', hk, hz with | 0, _, hz => by cases hz; exact ⟨by decide, "java/lang/IndexOutOfBoundsException", w_1267, nc_1⟩ | k + 1, hk, _ => absurd hk (by omega)⟩) (fun h => ev_find_1 h (fun e1 e2 => by cases e1; cases e2; exact ⟨2, 0, 14, 25, 13, rfl, by decide, by decide, by decide, w_1250, nst_73, by decide, Or.inr ⟨dL_define_25, rfl⟩, fun k' z hk hz => match k', hk, hz with | 0, _, hz => by cases hz; exact ⟨by decide, "java/lang/IndexOutOfBoundsException", w_1267, nc_3⟩ | 1, _, hz => by cases hz; exact ⟨by decide, "java/lang/IllegalArgumentException", w_1268, nc_2⟩ | k + 2, hk, _ => absurd hk (by omega)⟩) (fun h => by cases h))))
def g_L_define : Nat → EA := (t_n 17 (t_n 6 (t_n 3 (t_n 2 (t_l 0 (a_aload 2 5)) (t_l 2 (a_push 1 (.int 0)))) (t_n 4 (t_l 3 (a_aload 1 0)) (t_n 5 (t_l 4 (a_iload 1 1)) (t_l 5 (a_iload 1 2))))) (t_n 12 (t_n 7 (t_l 6 (a_iload 1 3)) (t_n 9 (t_l 7 (a_iload 2 4)) (t_l 9 (a_invH 166 5 (some 11) [("java/lang/IndexOutOfBoundsException", 19, 6), ("java/lang/IllegalArgumentException", 23, 6), ("java/lang/IllegalStateException", 27, 6)])))) (t_n 13 (t_l 12 (a_i (fun x => .long x.toInt64))) (t_n 14 (t_l 13 a_lst) (t_l 14 (a_goto 29)))))) (t_n 24 (t_n 20 (t_n 19 (t_l 17 (a_astore 7 2 6)) (t_l 19 (a_push 1 (.int 1)))) (t_n 21 (t_l 20 a_iret) (t_n 23 (t_l 21 (a_astore 7 2 6)) (t_l 23 (a_push 1 (.int 2)))))) (t_n 28 (t_n 25 (t_l 24 a_iret) (t_n 27 (t_l 25 (a_astore 7 2 6)) (t_l 27 (a_push 1 (.int 3))))) (t_n 29 (t_l 28 a_iret) (t_n 30 (t_l 29 (a_push 1 (.int 0))) (t_l 30 a_iret))))))
set_option maxRecDepth 100000 in
theorem k_L_define (d : Nat) : ∀ pc, ev_Ok cL_define 7 [(0, 14, 17, 19), (0, 14, 21, 21), (0, 14, 25, 13)] RL lw_g lw_n lw_q vwCl false (ev_CO mt lw_g lw_n lw_q vwCl d) pc (g_L_define pc) := (ok_t_n (ok_t_n (ok_t_n (ok_t_n (ok_t_l (ok_aload dL_define_0)) (ok_t_l (ok_iconst dL_define_2 rfl))) (ok_t_n (ok_t_l (ok_aload_n dL_define_3 rfl)) (ok_t_n (ok_t_l (ok_iload_n dL_define_4 rfl)) (ok_t_l (ok_iload_n dL_define_5 rfl))))) (ok_t_n (ok_t_n (ok_t_l (ok_iload_n dL_define_6 rfl)) (ok_t_n (ok_t_l (ok_iload dL_define_7)) (ok_t_l (ok_invH (run_V (y := 166) (n := 4) (ci := 11) dL_define_9 cz_166 gdG cc_166 ci_166 w_1332 cm_166 cs_166 cd_166 cl_166 rfl rfl) hd_L_define_9)))) (ok_t_n (ok_t_l (ok_i2l dL_define_12)) (ok_t_n (ok_t_l (ok_lastore dL_define_13)) (ok_t_l (ok_goto dL_define_14 rfl)))))) (ok_t_n (ok_t_n (ok_t_n (ok_t_l (ok_astore dL_define_17)) (ok_t_l (ok_iconst dL_define_19 rfl))) (ok_t_n (ok_t_l (ok_ireturn dL_define_20)) (ok_t_n (ok_t_l (ok_astore dL_define_21)) (ok_t_l (ok_iconst dL_define_23 rfl))))) (ok_t_n (ok_t_n (ok_t_l (ok_ireturn dL_define_24)) (ok_t_n (ok_t_l (ok_astore dL_define_25)) (ok_t_l (ok_iconst dL_define_27 rfl)))) (ok_t_n (ok_t_l (ok_ireturn dL_define_28)) (ok_t_n (ok_t_l (ok_iconst dL_define_29 rfl)) (ok_t_l (ok_ireturn dL_define_30)))))))
theorem dL_common_0 : decode cL_common 0 = .ok (.aload 5, 2) := by decide +kernel
theorem dL_common_2 : decode cL_common 2 = .ok (.iconst 0, 1) := by decide +kernel
theorem dL_common_3 : decode cL_common 3 = .ok (.aload_n 0, 1) := by decide +kernel
theorem dL_common_4 : decode cL_common 4 = .ok (.iload_n 1, 1) := by decide +kernel
theorem dL_common_5 : decode cL_common 5 = .ok (.iload_n 2, 1) := by decide +kernel
theorem dL_common_6 : decode cL_common 6 = .ok (.iload_n 3, 1) := by decide +kernel
theorem dL_common_7 : decode cL_common 7 = .ok (.iload 4, 2) := by decide +kernel
theorem dL_common_9 : decode cL_common 9 = .ok (.invokevirtual 38, 3) := by decide +kernel
theorem dL_common_12 : decode cL_common 12 = .ok (.i2l, 1) := by decide +kernel
theorem dL_common_13 : decode cL_common 13 = .ok (.lastore, 1) := by decide +kernel
theorem dL_common_14 : decode cL_common 14 = .ok (.goto 15, 3) := by decide +kernel
theorem dL_common_17 : decode cL_common 17 = .ok (.astore 6, 2) := by decide +kernel
theorem dL_common_19 : decode cL_common 19 = .ok (.iconst 1, 1) := by decide +kernel
theorem dL_common_20 : decode cL_common 20 = .ok (.ireturn, 1) := by decide +kernel
theorem dL_common_21 : decode cL_common 21 = .ok (.astore 6, 2) := by decide +kernel
theorem dL_common_23 : decode cL_common 23 = .ok (.iconst 2, 1) := by decide +kernel
theorem dL_common_24 : decode cL_common 24 = .ok (.ireturn, 1) := by decide +kernel
theorem dL_common_25 : decode cL_common 25 = .ok (.astore 6, 2) := by decide +kernel
theorem dL_common_27 : decode cL_common 27 = .ok (.iconst 3, 1) := by decide +kernel
theorem dL_common_28 : decode cL_common 28 = .ok (.ireturn, 1) := by decide +kernel
theorem dL_common_29 : decode cL_common 29 = .ok (.iconst 0, 1) := by decide +kernel
theorem dL_common_30 : decode cL_common 30 = .ok (.ireturn, 1) := by decide +kernel
theorem hd_L_common_9 : ∀ E q, ev_find [("java/lang/IndexOutOfBoundsException", 19, 6), ("java/lang/IllegalArgumentException", 23, 6), ("java/lang/IllegalStateException", 27, 6)] E = some q → ev_HF cL_common 7 [(0, 14, 17, 19), (0, 14, 21, 21), (0, 14, 25, 13)] RL lw_g lw_n lw_q 9 E q := fun E q => (fun h => ev_find_1 h (fun e1 e2 => by cases e1; cases e2; exact ⟨0, 0, 14, 17, 19, rfl, by decide, by decide, by decide, w_1267, nst_72, by decide, Or.inr ⟨dL_common_17, rfl⟩, fun _ _ hk _ => absurd hk (Nat.not_lt_zero _)⟩) (fun h => ev_find_1 h (fun e1 e2 => by cases e1; cases e2; exact ⟨1, 0, 14, 21, 21, rfl, by decide, by decide, by decide, w_1268, nst_65, by decide, Or.inr ⟨dL_common_21, rfl⟩, fun k' z hk hz => match k', hk, hz with | 0, _, hz => by cases hz; exact ⟨by decide, "java/lang/IndexOutOfBoundsException", w_1267, nc_1⟩ | k + 1, hk, _ => absurd hk (by omega)⟩) (fun h => ev_find_1 h (fun e1 e2 => by cases e1; cases e2; exact ⟨2, 0, 14, 25, 13, rfl, by decide, by decide, by decide, w_1250, nst_73, by decide, Or.inr ⟨dL_common_25, rfl⟩, fun k' z hk hz => match k', hk, hz with | 0, _, hz => by cases hz; exact ⟨by decide, "java/lang/IndexOutOfBoundsException", w_1267, nc_3⟩ | 1, _, hz => by cases hz; exact ⟨by decide, "java/lang/IllegalArgumentException", w_1268, nc_2⟩ | k + 2, hk, _ => absurd hk (by omega)⟩) (fun h => by cases h))))
def g_L_common : Nat → EA := (t_n 17 (t_n 6 (t_n 3 (t_n 2 (t_l 0 (a_aload 2 5)) (t_l 2 (a_push 1 (.int 0)))) (t_n 4 (t_l 3 (a_aload 1 0)) (t_n 5 (t_l 4 (a_iload 1 1)) (t_l 5 (a_iload 1 2))))) (t_n 12 (t_n 7 (t_l 6 (a_iload 1 3)) (t_n 9 (t_l 7 (a_iload 2 4)) (t_l 9 (a_invH 167 5 (some 11) [("java/lang/IndexOutOfBoundsException", 19, 6), ("java/lang/IllegalArgumentException", 23, 6), ("java/lang/IllegalStateException", 27, 6)])))) (t_n 13 (t_l 12 (a_i (fun x => .long x.toInt64))) (t_n 14 (t_l 13 a_lst) (t_l 14 (a_goto 29)))))) (t_n 24 (t_n 20 (t_n 19 (t_l 17 (a_astore 7 2 6)) (t_l 19 (a_push 1 (.int 1)))) (t_n 21 (t_l 20 a_iret) (t_n 23 (t_l 21 (a_astore 7 2 6)) (t_l 23 (a_push 1 (.int 2)))))) (t_n 28 (t_n 25 (t_l 24 a_iret) (t_n 27 (t_l 25 (a_astore 7 2 6)) (t_l 27 (a_push 1 (.int 3))))) (t_n 29 (t_l 28 a_iret) (t_n 30 (t_l 29 (a_push 1 (.int 0))) (t_l 30 a_iret))))))
set_option maxRecDepth 100000 in
theorem k_L_common (d : Nat) : ∀ pc, ev_Ok cL_common 7 [(0, 14, 17, 19), (0, 14, 21, 21), (0, 14, 25, 13)] RL lw_g lw_n lw_q vwCl false (ev_CO mt lw_g lw_n lw_q vwCl d) pc (g_L_common pc) := (ok_t_n (ok_t_n (ok_t_n (ok_t_n (ok_t_l (ok_aload dL_common_0)) (ok_t_l (ok_iconst dL_common_2 rfl))) (ok_t_n (ok_t_l (ok_aload_n dL_common_3 rfl)) (ok_t_n (ok_t_l (ok_iload_n dL_common_4 rfl)) (ok_t_l (ok_iload_n dL_common_5 rfl))))) (ok_t_n (ok_t_n (ok_t_l (ok_iload_n dL_common_6 rfl)) (ok_t_n (ok_t_l (ok_iload dL_common_7)) (ok_t_l (ok_invH (run_V (y := 167) (n := 4) (ci := 11) dL_common_9 cz_167 gdG cc_167 ci_167 w_1349 cm_167 cs_167 cd_167 cl_167 rfl rfl) hd_L_common_9)))) (ok_t_n (ok_t_l (ok_i2l dL_common_12)) (ok_t_n (ok_t_l (ok_lastore dL_common_13)) (ok_t_l (ok_goto dL_common_14 rfl)))))) (ok_t_n (ok_t_n (ok_t_n (ok_t_l (ok_astore dL_common_17)) (ok_t_l (ok_iconst dL_common_19 rfl))) (ok_t_n (ok_t_l (ok_ireturn dL_common_20)) (ok_t_n (ok_t_l (ok_astore dL_common_21)) (ok_t_l (ok_iconst dL_common_23 rfl))))) (ok_t_n (ok_t_n (ok_t_l (ok_ireturn dL_common_24)) (ok_t_n (ok_t_l (ok_astore dL_common_25)) (ok_t_l (ok_iconst dL_common_27 rfl)))) (ok_t_n (ok_t_l (ok_ireturn dL_common_28)) (ok_t_n (ok_t_l (ok_iconst dL_common_29 rfl)) (ok_t_l (ok_ireturn dL_common_30)))))))
theorem dL_item_0 : decode cL_item 0 = .ok (.aload_n 3, 1) := by decide +kernel
theorem dL_item_1 : decode cL_item 1 = .ok (.iconst 0, 1) := by decide +kernel
theorem dL_item_2 : decode cL_item 2 = .ok (.aload_n 0, 1) := by decide +kernel
theorem dL_item_3 : decode cL_item 3 = .ok (.iload_n 1, 1) := by decide +kernel
theorem dL_item_4 : decode cL_item 4 = .ok (.iload_n 2, 1) := by decide +kernel
theorem dL_item_5 : decode cL_item 5 = .ok (.invokevirtual 42, 3) := by decide +kernel
theorem dL_item_8 : decode cL_item 8 = .ok (.i2l, 1) := by decide +kernel
theorem dL_item_9 : decode cL_item 9 = .ok (.lastore, 1) := by decide +kernel
theorem dL_item_10 : decode cL_item 10 = .ok (.goto 11, 3) := by decide +kernel
theorem dL_item_13 : decode cL_item 13 = .ok (.astore 4, 2) := by decide +kernel
theorem dL_item_15 : decode cL_item 15 = .ok (.iconst 1, 1) := by decide +kernel
theorem dL_item_16 : decode cL_item 16 = .ok (.ireturn, 1) := by decide +kernel
theorem dL_item_17 : decode cL_item 17 = .ok (.astore 4, 2) := by decide +kernel
theorem dL_item_19 : decode cL_item 19 = .ok (.iconst 2, 1) := by decide +kernel
theorem dL_item_20 : decode cL_item 20 = .ok (.ireturn, 1) := by decide +kernel
theorem dL_item_21 : decode cL_item 21 = .ok (.iconst 0, 1) := by decide +kernel
theorem dL_item_22 : decode cL_item 22 = .ok (.ireturn, 1) := by decide +kernel
theorem hd_L_item_5 : ∀ E q, ev_find [("java/lang/IllegalArgumentException", 15, 4), ("java/lang/IllegalStateException", 19, 4)] E = some q → ev_HF cL_item 5 [(0, 10, 13, 21), (0, 10, 17, 13)] RL lw_g lw_n lw_q 5 E q := fun E q => (fun h => ev_find_1 h (fun e1 e2 => by cases e1; cases e2; exact ⟨0, 0, 10, 13, 21, rfl, by decide, by decide, by decide, w_1268, nst_65, by decide, Or.inr ⟨dL_item_13, rfl⟩, fun _ _ hk _ => absurd hk (Nat.not_lt_zero _)⟩) (fun h => ev_find_1 h (fun e1 e2 => by cases e1; cases e2; exact ⟨1, 0, 10, 17, 13, rfl, by decide, by decide, by decide, w_1250, nst_73, by decide, Or.inr ⟨dL_item_17, rfl⟩, fun k' z hk hz => match k', hk, hz with | 0, _, hz => by cases hz; exact ⟨by decide, "java/lang/IllegalArgumentException", w_1268, nc_2⟩ | k + 1, hk, _ => absurd hk (by omega)⟩) (fun h => by cases h)))
def g_L_item : Nat → EA := (t_n 10 (t_n 4 (t_n 2 (t_n 1 (t_l 0 (a_aload 1 3)) (t_l 1 (a_push 1 (.int 0)))) (t_n 3 (t_l 2 (a_aload 1 0)) (t_l 3 (a_iload 1 1)))) (t_n 8 (t_n 5 (t_l 4 (a_iload 1 2)) (t_l 5 (a_invH 168 3 (some 11) [("java/lang/IllegalArgumentException", 15, 4), ("java/lang/IllegalStateException", 19, 4)]))) (t_n 9 (t_l 8 (a_i (fun x => .long x.toInt64))) (t_l 9 a_lst)))) (t_n 17 (t_n 15 (t_n 13 (t_l 10 (a_goto 21)) (t_l 13 (a_astore 5 2 4))) (t_n 16 (t_l 15 (a_push 1 (.int 1))) (t_l 16 a_iret))) (t_n 20 (t_n 19 (t_l 17 (a_astore 5 2 4)) (t_l 19 (a_push 1 (.int 2)))) (t_n 21 (t_l 20 a_iret) (t_n 22 (t_l 21 (a_push 1 (.int 0))) (t_l 22 a_iret))))))
set_option maxRecDepth 100000 in
theorem k_L_item (d : Nat) : ∀ pc, ev_Ok cL_item 5 [(0, 10, 13, 21), (0, 10, 17, 13)] RL lw_g lw_n lw_q vwCl false (ev_CO mt lw_g lw_n lw_q vwCl d) pc (g_L_item pc) := (ok_t_n (ok_t_n (ok_t_n (ok_t_n (ok_t_l (ok_aload_n dL_item_0 rfl)) (ok_t_l (ok_iconst dL_item_1 rfl))) (ok_t_n (ok_t_l (ok_aload_n dL_item_2 rfl)) (ok_t_l (ok_iload_n dL_item_3 rfl)))) (ok_t_n (ok_t_n (ok_t_l (ok_iload_n dL_item_4 rfl)) (ok_t_l (ok_invH (run_V (y := 168) (n := 2) (ci := 11) dL_item_5 cz_168 gdG cc_168 ci_168 w_1362 cm_168 cs_168 cd_168 cl_168 rfl rfl) hd_L_item_5))) (ok_t_n (ok_t_l (ok_i2l dL_item_8)) (ok_t_l (ok_lastore dL_item_9))))) (ok_t_n (ok_t_n (ok_t_n (ok_t_l (ok_goto dL_item_10 rfl)) (ok_t_l (ok_astore dL_item_13))) (ok_t_n (ok_t_l (ok_iconst dL_item_15 rfl)) (ok_t_l (ok_ireturn dL_item_16)))) (ok_t_n (ok_t_n (ok_t_l (ok_astore dL_item_17)) (ok_t_l (ok_iconst dL_item_19 rfl))) (ok_t_n (ok_t_l (ok_ireturn dL_item_20)) (ok_t_n (ok_t_l (ok_iconst dL_item_21 rfl)) (ok_t_l (ok_ireturn dL_item_22)))))))
theorem dL_ofObject_0 : decode cL_ofObject 0 = .ok (.aload_n 3, 1) := by decide +kernel
theorem dL_ofObject_1 : decode cL_ofObject 1 = .ok (.iconst 0, 1) := by decide +kernel
theorem dL_ofObject_2 : decode cL_ofObject 2 = .ok (.aload_n 0, 1) := by decide +kernel
theorem dL_ofObject_3 : decode cL_ofObject 3 = .ok (.iload_n 1, 1) := by decide +kernel
theorem dL_ofObject_4 : decode cL_ofObject 4 = .ok (.iload_n 2, 1) := by decide +kernel
theorem dL_ofObject_5 : decode cL_ofObject 5 = .ok (.invokevirtual 45, 3) := by decide +kernel
theorem dL_ofObject_8 : decode cL_ofObject 8 = .ok (.i2l, 1) := by decide +kernel
theorem dL_ofObject_9 : decode cL_ofObject 9 = .ok (.lastore, 1) := by decide +kernel
theorem dL_ofObject_10 : decode cL_ofObject 10 = .ok (.goto 11, 3) := by decide +kernel
theorem dL_ofObject_13 : decode cL_ofObject 13 = .ok (.astore 4, 2) := by decide +kernel
theorem dL_ofObject_15 : decode cL_ofObject 15 = .ok (.iconst 1, 1) := by decide +kernel
theorem dL_ofObject_16 : decode cL_ofObject 16 = .ok (.ireturn, 1) := by decide +kernel
theorem dL_ofObject_17 : decode cL_ofObject 17 = .ok (.astore 4, 2) := by decide +kernel
theorem dL_ofObject_19 : decode cL_ofObject 19 = .ok (.iconst 2, 1) := by decide +kernel
theorem dL_ofObject_20 : decode cL_ofObject 20 = .ok (.ireturn, 1) := by decide +kernel
theorem dL_ofObject_21 : decode cL_ofObject 21 = .ok (.iconst 0, 1) := by decide +kernel
theorem dL_ofObject_22 : decode cL_ofObject 22 = .ok (.ireturn, 1) := by decide +kernel
theorem hd_L_ofObject_5 : ∀ E q, ev_find [("java/lang/IndexOutOfBoundsException", 15, 4), ("java/lang/IllegalArgumentException", 19, 4)] E = some q → ev_HF cL_ofObject 5 [(0, 10, 13, 19), (0, 10, 17, 21)] RL lw_g lw_n lw_q 5 E q := fun E q => (fun h => ev_find_1 h (fun e1 e2 => by cases e1; cases e2; exact ⟨0, 0, 10, 13, 19, rfl, by decide, by decide, by decide, w_1267, nst_72, by decide, Or.inr ⟨dL_ofObject_13, rfl⟩, fun _ _ hk _ => absurd hk (Nat.not_lt_zero _)⟩) (fun h => ev_find_1 h (fun e1 e2 => by cases e1; cases e2; exact ⟨1, 0, 10, 17, 21, rfl, by decide, by decide, by decide, w_1268, nst_65, by decide, Or.inr ⟨dL_ofObject_17, rfl⟩, fun k' z hk hz => match k', hk, hz with | 0, _, hz => by cases hz; exact ⟨by decide, "java/lang/IndexOutOfBoundsException", w_1267, nc_1⟩ | k + 1, hk, _ => absurd hk (by omega)⟩) (fun h => by cases h)))
def g_L_ofObject : Nat → EA := (t_n 10 (t_n 4 (t_n 2 (t_n 1 (t_l 0 (a_aload 1 3)) (t_l 1 (a_push 1 (.int 0)))) (t_n 3 (t_l 2 (a_aload 1 0)) (t_l 3 (a_iload 1 1)))) (t_n 8 (t_n 5 (t_l 4 (a_iload 1 2)) (t_l 5 (a_invH 170 3 (some 11) [("java/lang/IndexOutOfBoundsException", 15, 4), ("java/lang/IllegalArgumentException", 19, 4)]))) (t_n 9 (t_l 8 (a_i (fun x => .long x.toInt64))) (t_l 9 a_lst)))) (t_n 17 (t_n 15 (t_n 13 (t_l 10 (a_goto 21)) (t_l 13 (a_astore 5 2 4))) (t_n 16 (t_l 15 (a_push 1 (.int 1))) (t_l 16 a_iret))) (t_n 20 (t_n 19 (t_l 17 (a_astore 5 2 4)) (t_l 19 (a_push 1 (.int 2)))) (t_n 21 (t_l 20 a_iret) (t_n 22 (t_l 21 (a_push 1 (.int 0))) (t_l 22 a_iret))))))
set_option maxRecDepth 100000 in
theorem k_L_ofObject (d : Nat) : ∀ pc, ev_Ok cL_ofObject 5 [(0, 10, 13, 19), (0, 10, 17, 21)] RL lw_g lw_n lw_q vwCl false (ev_CO mt lw_g lw_n lw_q vwCl d) pc (g_L_ofObject pc) := (ok_t_n (ok_t_n (ok_t_n (ok_t_n (ok_t_l (ok_aload_n dL_ofObject_0 rfl)) (ok_t_l (ok_iconst dL_ofObject_1 rfl))) (ok_t_n (ok_t_l (ok_aload_n dL_ofObject_2 rfl)) (ok_t_l (ok_iload_n dL_ofObject_3 rfl)))) (ok_t_n (ok_t_n (ok_t_l (ok_iload_n dL_ofObject_4 rfl)) (ok_t_l (ok_invH (run_V (y := 170) (n := 2) (ci := 11) dL_ofObject_5 cz_170 gdG cc_170 ci_170 w_1388 cm_170 cs_170 cd_170 cl_170 rfl rfl) hd_L_ofObject_5))) (ok_t_n (ok_t_l (ok_i2l dL_ofObject_8)) (ok_t_l (ok_lastore dL_ofObject_9))))) (ok_t_n (ok_t_n (ok_t_n (ok_t_l (ok_goto dL_ofObject_10 rfl)) (ok_t_l (ok_astore dL_ofObject_13))) (ok_t_n (ok_t_l (ok_iconst dL_ofObject_15 rfl)) (ok_t_l (ok_ireturn dL_ofObject_16)))) (ok_t_n (ok_t_n (ok_t_l (ok_astore dL_ofObject_17)) (ok_t_l (ok_iconst dL_ofObject_19 rfl))) (ok_t_n (ok_t_l (ok_ireturn dL_ofObject_20)) (ok_t_n (ok_t_l (ok_iconst dL_ofObject_21 rfl)) (ok_t_l (ok_ireturn dL_ofObject_22)))))))
theorem dL_bounds_0 : decode cL_bounds 0 = .ok (.aload_n 3, 1) := by decide +kernel
theorem dL_bounds_1 : decode cL_bounds 1 = .ok (.iconst 0, 1) := by decide +kernel
theorem dL_bounds_2 : decode cL_bounds 2 = .ok (.aload_n 0, 1) := by decide +kernel
theorem dL_bounds_3 : decode cL_bounds 3 = .ok (.iload_n 1, 1) := by decide +kernel
theorem dL_bounds_4 : decode cL_bounds 4 = .ok (.iload_n 2, 1) := by decide +kernel
theorem dL_bounds_5 : decode cL_bounds 5 = .ok (.invokevirtual 48, 3) := by decide +kernel
theorem dL_bounds_8 : decode cL_bounds 8 = .ok (.i2l, 1) := by decide +kernel
theorem dL_bounds_9 : decode cL_bounds 9 = .ok (.lastore, 1) := by decide +kernel
theorem dL_bounds_10 : decode cL_bounds 10 = .ok (.goto 7, 3) := by decide +kernel
theorem dL_bounds_13 : decode cL_bounds 13 = .ok (.astore 4, 2) := by decide +kernel
theorem dL_bounds_15 : decode cL_bounds 15 = .ok (.iconst 1, 1) := by decide +kernel
theorem dL_bounds_16 : decode cL_bounds 16 = .ok (.ireturn, 1) := by decide +kernel
theorem dL_bounds_17 : decode cL_bounds 17 = .ok (.iconst 0, 1) := by decide +kernel
theorem dL_bounds_18 : decode cL_bounds 18 = .ok (.ireturn, 1) := by decide +kernel
theorem hd_L_bounds_5 : ∀ E q, ev_find [("java/lang/IllegalArgumentException", 15, 4)] E = some q → ev_HF cL_bounds 5 [(0, 10, 13, 21)] RL lw_g lw_n lw_q 5 E q := fun E q => (fun h => ev_find_1 h (fun e1 e2 => by cases e1; cases e2; exact ⟨0, 0, 10, 13, 21, rfl, by decide, by decide, by decide, w_1268, nst_65, by decide, Or.inr ⟨dL_bounds_13, rfl⟩, fun _ _ hk _ => absurd hk (Nat.not_lt_zero _)⟩) (fun h => by cases h))
def g_L_bounds : Nat → EA := (t_n 9 (t_n 3 (t_n 1 (t_l 0 (a_aload 1 3)) (t_n 2 (t_l 1 (a_push 1 (.int 0))) (t_l 2 (a_aload 1 0)))) (t_n 5 (t_n 4 (t_l 3 (a_iload 1 1)) (t_l 4 (a_iload 1 2))) (t_n 8 (t_l 5 (a_invH 171 3 (some 11) [("java/lang/IllegalArgumentException", 15, 4)])) (t_l 8 (a_i (fun x => .long x.toInt64)))))) (t_n 15 (t_n 10 (t_l 9 a_lst) (t_n 13 (t_l 10 (a_goto 17)) (t_l 13 (a_astore 5 2 4)))) (t_n 17 (t_n 16 (t_l 15 (a_push 1 (.int 1))) (t_l 16 a_iret)) (t_n 18 (t_l 17 (a_push 1 (.int 0))) (t_l 18 a_iret)))))
set_option maxRecDepth 100000 in
theorem k_L_bounds (d : Nat) : ∀ pc, ev_Ok cL_bounds 5 [(0, 10, 13, 21)] RL lw_g lw_n lw_q vwCl false (ev_CO mt lw_g lw_n lw_q vwCl d) pc (g_L_bounds pc) := (ok_t_n (ok_t_n (ok_t_n (ok_t_l (ok_aload_n dL_bounds_0 rfl)) (ok_t_n (ok_t_l (ok_iconst dL_bounds_1 rfl)) (ok_t_l (ok_aload_n dL_bounds_2 rfl)))) (ok_t_n (ok_t_n (ok_t_l (ok_iload_n dL_bounds_3 rfl)) (ok_t_l (ok_iload_n dL_bounds_4 rfl))) (ok_t_n (ok_t_l (ok_invH (run_V (y := 171) (n := 2) (ci := 11) dL_bounds_5 cz_171 gdG cc_171 ci_171 w_1392 cm_171 cs_171 cd_171 cl_171 rfl rfl) hd_L_bounds_5)) (ok_t_l (ok_i2l dL_bounds_8))))) (ok_t_n (ok_t_n (ok_t_l (ok_lastore dL_bounds_9)) (ok_t_n (ok_t_l (ok_goto dL_bounds_10 rfl)) (ok_t_l (ok_astore dL_bounds_13)))) (ok_t_n (ok_t_n (ok_t_l (ok_iconst dL_bounds_15 rfl)) (ok_t_l (ok_ireturn dL_bounds_16))) (ok_t_n (ok_t_l (ok_iconst dL_bounds_17 rfl)) (ok_t_l (ok_ireturn dL_bounds_18))))))
theorem dL_link_0 : decode cL_link 0 = .ok (.aload_n 3, 1) := by decide +kernel
theorem dL_link_1 : decode cL_link 1 = .ok (.iconst 0, 1) := by decide +kernel
theorem dL_link_2 : decode cL_link 2 = .ok (.aload_n 0, 1) := by decide +kernel
theorem dL_link_3 : decode cL_link 3 = .ok (.iload_n 1, 1) := by decide +kernel
theorem dL_link_4 : decode cL_link 4 = .ok (.iload_n 2, 1) := by decide +kernel
theorem dL_link_5 : decode cL_link 5 = .ok (.invokevirtual 51, 3) := by decide +kernel
theorem dL_link_8 : decode cL_link 8 = .ok (.i2l, 1) := by decide +kernel
theorem dL_link_9 : decode cL_link 9 = .ok (.lastore, 1) := by decide +kernel
theorem dL_link_10 : decode cL_link 10 = .ok (.goto 7, 3) := by decide +kernel
theorem dL_link_13 : decode cL_link 13 = .ok (.astore 4, 2) := by decide +kernel
theorem dL_link_15 : decode cL_link 15 = .ok (.iconst 1, 1) := by decide +kernel
theorem dL_link_16 : decode cL_link 16 = .ok (.ireturn, 1) := by decide +kernel
theorem dL_link_17 : decode cL_link 17 = .ok (.iconst 0, 1) := by decide +kernel
theorem dL_link_18 : decode cL_link 18 = .ok (.ireturn, 1) := by decide +kernel
theorem hd_L_link_5 : ∀ E q, ev_find [("java/lang/IllegalArgumentException", 15, 4)] E = some q → ev_HF cL_link 5 [(0, 10, 13, 21)] RL lw_g lw_n lw_q 5 E q := fun E q => (fun h => ev_find_1 h (fun e1 e2 => by cases e1; cases e2; exact ⟨0, 0, 10, 13, 21, rfl, by decide, by decide, by decide, w_1268, nst_65, by decide, Or.inr ⟨dL_link_13, rfl⟩, fun _ _ hk _ => absurd hk (Nat.not_lt_zero _)⟩) (fun h => by cases h))
def g_L_link : Nat → EA := (t_n 9 (t_n 3 (t_n 1 (t_l 0 (a_aload 1 3)) (t_n 2 (t_l 1 (a_push 1 (.int 0))) (t_l 2 (a_aload 1 0)))) (t_n 5 (t_n 4 (t_l 3 (a_iload 1 1)) (t_l 4 (a_iload 1 2))) (t_n 8 (t_l 5 (a_invH 172 3 (some 11) [("java/lang/IllegalArgumentException", 15, 4)])) (t_l 8 (a_i (fun x => .long x.toInt64)))))) (t_n 15 (t_n 10 (t_l 9 a_lst) (t_n 13 (t_l 10 (a_goto 17)) (t_l 13 (a_astore 5 2 4)))) (t_n 17 (t_n 16 (t_l 15 (a_push 1 (.int 1))) (t_l 16 a_iret)) (t_n 18 (t_l 17 (a_push 1 (.int 0))) (t_l 18 a_iret)))))
set_option maxRecDepth 100000 in
theorem k_L_link (d : Nat) : ∀ pc, ev_Ok cL_link 5 [(0, 10, 13, 21)] RL lw_g lw_n lw_q vwCl false (ev_CO mt lw_g lw_n lw_q vwCl d) pc (g_L_link pc) := (ok_t_n (ok_t_n (ok_t_n (ok_t_l (ok_aload_n dL_link_0 rfl)) (ok_t_n (ok_t_l (ok_iconst dL_link_1 rfl)) (ok_t_l (ok_aload_n dL_link_2 rfl)))) (ok_t_n (ok_t_n (ok_t_l (ok_iload_n dL_link_3 rfl)) (ok_t_l (ok_iload_n dL_link_4 rfl))) (ok_t_n (ok_t_l (ok_invH (run_V (y := 172) (n := 2) (ci := 11) dL_link_5 cz_172 gdG cc_172 ci_172 w_1400 cm_172 cs_172 cd_172 cl_172 rfl rfl) hd_L_link_5)) (ok_t_l (ok_i2l dL_link_8))))) (ok_t_n (ok_t_n (ok_t_l (ok_lastore dL_link_9)) (ok_t_n (ok_t_l (ok_goto dL_link_10 rfl)) (ok_t_l (ok_astore dL_link_13)))) (ok_t_n (ok_t_n (ok_t_l (ok_iconst dL_link_15 rfl)) (ok_t_l (ok_ireturn dL_link_16))) (ok_t_n (ok_t_l (ok_iconst dL_link_17 rfl)) (ok_t_l (ok_ireturn dL_link_18))))))
theorem dL_ofSection_0 : decode cL_ofSection 0 = .ok (.aload_n 3, 1) := by decide +kernel
theorem dL_ofSection_1 : decode cL_ofSection 1 = .ok (.iconst 0, 1) := by decide +kernel
theorem dL_ofSection_2 : decode cL_ofSection 2 = .ok (.aload_n 0, 1) := by decide +kernel
theorem dL_ofSection_3 : decode cL_ofSection 3 = .ok (.iload_n 1, 1) := by decide +kernel
theorem dL_ofSection_4 : decode cL_ofSection 4 = .ok (.iload_n 2, 1) := by decide +kernel
theorem dL_ofSection_5 : decode cL_ofSection 5 = .ok (.invokevirtual 55, 3) := by decide +kernel
theorem dL_ofSection_8 : decode cL_ofSection 8 = .ok (.i2l, 1) := by decide +kernel
theorem dL_ofSection_9 : decode cL_ofSection 9 = .ok (.lastore, 1) := by decide +kernel
theorem dL_ofSection_10 : decode cL_ofSection 10 = .ok (.goto 11, 3) := by decide +kernel
theorem dL_ofSection_13 : decode cL_ofSection 13 = .ok (.astore 4, 2) := by decide +kernel
theorem dL_ofSection_15 : decode cL_ofSection 15 = .ok (.iconst 1, 1) := by decide +kernel
theorem dL_ofSection_16 : decode cL_ofSection 16 = .ok (.ireturn, 1) := by decide +kernel
theorem dL_ofSection_17 : decode cL_ofSection 17 = .ok (.astore 4, 2) := by decide +kernel
theorem dL_ofSection_19 : decode cL_ofSection 19 = .ok (.iconst 2, 1) := by decide +kernel
theorem dL_ofSection_20 : decode cL_ofSection 20 = .ok (.ireturn, 1) := by decide +kernel
theorem dL_ofSection_21 : decode cL_ofSection 21 = .ok (.iconst 0, 1) := by decide +kernel
theorem dL_ofSection_22 : decode cL_ofSection 22 = .ok (.ireturn, 1) := by decide +kernel
theorem hd_L_ofSection_5 : ∀ E q, ev_find [("java/lang/IndexOutOfBoundsException", 15, 4), ("java/lang/IllegalArgumentException", 19, 4)] E = some q → ev_HF cL_ofSection 5 [(0, 10, 13, 19), (0, 10, 17, 21)] RL lw_g lw_n lw_q 5 E q := fun E q => (fun h => ev_find_1 h (fun e1 e2 => by cases e1; cases e2; exact ⟨0, 0, 10, 13, 19, rfl, by decide, by decide, by decide, w_1267, nst_72, by decide, Or.inr ⟨dL_ofSection_13, rfl⟩, fun _ _ hk _ => absurd hk (Nat.not_lt_zero _)⟩) (fun h => ev_find_1 h (fun e1 e2 => by cases e1; cases e2; exact ⟨1, 0, 10, 17, 21, rfl, by decide, by decide, by decide, w_1268, nst_65, by decide, Or.inr ⟨dL_ofSection_17, rfl⟩, fun k' z hk hz => match k', hk, hz with | 0, _, hz => by cases hz; exact ⟨by decide, "java/lang/IndexOutOfBoundsException", w_1267, nc_1⟩ | k + 1, hk, _ => absurd hk (by omega)⟩) (fun h => by cases h)))
def g_L_ofSection : Nat → EA := (t_n 10 (t_n 4 (t_n 2 (t_n 1 (t_l 0 (a_aload 1 3)) (t_l 1 (a_push 1 (.int 0)))) (t_n 3 (t_l 2 (a_aload 1 0)) (t_l 3 (a_iload 1 1)))) (t_n 8 (t_n 5 (t_l 4 (a_iload 1 2)) (t_l 5 (a_invH 173 3 (some 11) [("java/lang/IndexOutOfBoundsException", 15, 4), ("java/lang/IllegalArgumentException", 19, 4)]))) (t_n 9 (t_l 8 (a_i (fun x => .long x.toInt64))) (t_l 9 a_lst)))) (t_n 17 (t_n 15 (t_n 13 (t_l 10 (a_goto 21)) (t_l 13 (a_astore 5 2 4))) (t_n 16 (t_l 15 (a_push 1 (.int 1))) (t_l 16 a_iret))) (t_n 20 (t_n 19 (t_l 17 (a_astore 5 2 4)) (t_l 19 (a_push 1 (.int 2)))) (t_n 21 (t_l 20 a_iret) (t_n 22 (t_l 21 (a_push 1 (.int 0))) (t_l 22 a_iret))))))
set_option maxRecDepth 100000 in
theorem k_L_ofSection (d : Nat) : ∀ pc, ev_Ok cL_ofSection 5 [(0, 10, 13, 19), (0, 10, 17, 21)] RL lw_g lw_n lw_q vwCl false (ev_CO mt lw_g lw_n lw_q vwCl d) pc (g_L_ofSection pc) := (ok_t_n (ok_t_n (ok_t_n (ok_t_n (ok_t_l (ok_aload_n dL_ofSection_0 rfl)) (ok_t_l (ok_iconst dL_ofSection_1 rfl))) (ok_t_n (ok_t_l (ok_aload_n dL_ofSection_2 rfl)) (ok_t_l (ok_iload_n dL_ofSection_3 rfl)))) (ok_t_n (ok_t_n (ok_t_l (ok_iload_n dL_ofSection_4 rfl)) (ok_t_l (ok_invH (run_V (y := 173) (n := 2) (ci := 11) dL_ofSection_5 cz_173 gdG cc_173 ci_173 w_1427 cm_173 cs_173 cd_173 cl_173 rfl rfl) hd_L_ofSection_5))) (ok_t_n (ok_t_l (ok_i2l dL_ofSection_8)) (ok_t_l (ok_lastore dL_ofSection_9))))) (ok_t_n (ok_t_n (ok_t_n (ok_t_l (ok_goto dL_ofSection_10 rfl)) (ok_t_l (ok_astore dL_ofSection_13))) (ok_t_n (ok_t_l (ok_iconst dL_ofSection_15 rfl)) (ok_t_l (ok_ireturn dL_ofSection_16)))) (ok_t_n (ok_t_n (ok_t_l (ok_astore dL_ofSection_17)) (ok_t_l (ok_iconst dL_ofSection_19 rfl))) (ok_t_n (ok_t_l (ok_ireturn dL_ofSection_20)) (ok_t_n (ok_t_l (ok_iconst dL_ofSection_21 rfl)) (ok_t_l (ok_ireturn dL_ofSection_22)))))))
theorem dL_ofName_0 : decode cL_ofName 0 = .ok (.aload_n 3, 1) := by decide +kernel
theorem dL_ofName_1 : decode cL_ofName 1 = .ok (.iconst 0, 1) := by decide +kernel
theorem dL_ofName_2 : decode cL_ofName 2 = .ok (.aload_n 0, 1) := by decide +kernel
theorem dL_ofName_3 : decode cL_ofName 3 = .ok (.iload_n 1, 1) := by decide +kernel
theorem dL_ofName_4 : decode cL_ofName 4 = .ok (.iload_n 2, 1) := by decide +kernel
theorem dL_ofName_5 : decode cL_ofName 5 = .ok (.invokevirtual 58, 3) := by decide +kernel
theorem dL_ofName_8 : decode cL_ofName 8 = .ok (.i2l, 1) := by decide +kernel
theorem dL_ofName_9 : decode cL_ofName 9 = .ok (.lastore, 1) := by decide +kernel
theorem dL_ofName_10 : decode cL_ofName 10 = .ok (.goto 7, 3) := by decide +kernel
theorem dL_ofName_13 : decode cL_ofName 13 = .ok (.astore 4, 2) := by decide +kernel
theorem dL_ofName_15 : decode cL_ofName 15 = .ok (.iconst 1, 1) := by decide +kernel
theorem dL_ofName_16 : decode cL_ofName 16 = .ok (.ireturn, 1) := by decide +kernel
theorem dL_ofName_17 : decode cL_ofName 17 = .ok (.iconst 0, 1) := by decide +kernel
theorem dL_ofName_18 : decode cL_ofName 18 = .ok (.ireturn, 1) := by decide +kernel
theorem hd_L_ofName_5 : ∀ E q, ev_find [("java/lang/IllegalArgumentException", 15, 4)] E = some q → ev_HF cL_ofName 5 [(0, 10, 13, 21)] RL lw_g lw_n lw_q 5 E q := fun E q => (fun h => ev_find_1 h (fun e1 e2 => by cases e1; cases e2; exact ⟨0, 0, 10, 13, 21, rfl, by decide, by decide, by decide, w_1268, nst_65, by decide, Or.inr ⟨dL_ofName_13, rfl⟩, fun _ _ hk _ => absurd hk (Nat.not_lt_zero _)⟩) (fun h => by cases h))
def g_L_ofName : Nat → EA := (t_n 9 (t_n 3 (t_n 1 (t_l 0 (a_aload 1 3)) (t_n 2 (t_l 1 (a_push 1 (.int 0))) (t_l 2 (a_aload 1 0)))) (t_n 5 (t_n 4 (t_l 3 (a_iload 1 1)) (t_l 4 (a_iload 1 2))) (t_n 8 (t_l 5 (a_invH 174 3 (some 11) [("java/lang/IllegalArgumentException", 15, 4)])) (t_l 8 (a_i (fun x => .long x.toInt64)))))) (t_n 15 (t_n 10 (t_l 9 a_lst) (t_n 13 (t_l 10 (a_goto 17)) (t_l 13 (a_astore 5 2 4)))) (t_n 17 (t_n 16 (t_l 15 (a_push 1 (.int 1))) (t_l 16 a_iret)) (t_n 18 (t_l 17 (a_push 1 (.int 0))) (t_l 18 a_iret)))))
set_option maxRecDepth 100000 in
theorem k_L_ofName (d : Nat) : ∀ pc, ev_Ok cL_ofName 5 [(0, 10, 13, 21)] RL lw_g lw_n lw_q vwCl false (ev_CO mt lw_g lw_n lw_q vwCl d) pc (g_L_ofName pc) := (ok_t_n (ok_t_n (ok_t_n (ok_t_l (ok_aload_n dL_ofName_0 rfl)) (ok_t_n (ok_t_l (ok_iconst dL_ofName_1 rfl)) (ok_t_l (ok_aload_n dL_ofName_2 rfl)))) (ok_t_n (ok_t_n (ok_t_l (ok_iload_n dL_ofName_3 rfl)) (ok_t_l (ok_iload_n dL_ofName_4 rfl))) (ok_t_n (ok_t_l (ok_invH (run_V (y := 174) (n := 2) (ci := 11) dL_ofName_5 cz_174 gdG cc_174 ci_174 w_1431 cm_174 cs_174 cd_174 cl_174 rfl rfl) hd_L_ofName_5)) (ok_t_l (ok_i2l dL_ofName_8))))) (ok_t_n (ok_t_n (ok_t_l (ok_lastore dL_ofName_9)) (ok_t_n (ok_t_l (ok_goto dL_ofName_10 rfl)) (ok_t_l (ok_astore dL_ofName_13)))) (ok_t_n (ok_t_n (ok_t_l (ok_iconst dL_ofName_15 rfl)) (ok_t_l (ok_ireturn dL_ofName_16))) (ok_t_n (ok_t_l (ok_iconst dL_ofName_17 rfl)) (ok_t_l (ok_ireturn dL_ofName_18))))))
theorem dL_fault_0 : decode cL_fault 0 = .ok (.aload_n 3, 1) := by decide +kernel
theorem dL_fault_1 : decode cL_fault 1 = .ok (.iconst 0, 1) := by decide +kernel
theorem dL_fault_2 : decode cL_fault 2 = .ok (.aload_n 0, 1) := by decide +kernel
theorem dL_fault_3 : decode cL_fault 3 = .ok (.iload_n 1, 1) := by decide +kernel
theorem dL_fault_4 : decode cL_fault 4 = .ok (.iload_n 2, 1) := by decide +kernel
theorem dL_fault_5 : decode cL_fault 5 = .ok (.invokevirtual 61, 3) := by decide +kernel
theorem dL_fault_8 : decode cL_fault 8 = .ok (.i2l, 1) := by decide +kernel
theorem dL_fault_9 : decode cL_fault 9 = .ok (.lastore, 1) := by decide +kernel
theorem dL_fault_10 : decode cL_fault 10 = .ok (.goto 11, 3) := by decide +kernel
theorem dL_fault_13 : decode cL_fault 13 = .ok (.astore 4, 2) := by decide +kernel
theorem dL_fault_15 : decode cL_fault 15 = .ok (.iconst 1, 1) := by decide +kernel
theorem dL_fault_16 : decode cL_fault 16 = .ok (.ireturn, 1) := by decide +kernel
theorem dL_fault_17 : decode cL_fault 17 = .ok (.astore 4, 2) := by decide +kernel
theorem dL_fault_19 : decode cL_fault 19 = .ok (.iconst 2, 1) := by decide +kernel
theorem dL_fault_20 : decode cL_fault 20 = .ok (.ireturn, 1) := by decide +kernel
theorem dL_fault_21 : decode cL_fault 21 = .ok (.iconst 0, 1) := by decide +kernel
theorem dL_fault_22 : decode cL_fault 22 = .ok (.ireturn, 1) := by decide +kernel
theorem hd_L_fault_5 : ∀ E q, ev_find [("java/lang/IndexOutOfBoundsException", 15, 4), ("java/lang/IllegalArgumentException", 19, 4)] E = some q → ev_HF cL_fault 5 [(0, 10, 13, 19), (0, 10, 17, 21)] RL lw_g lw_n lw_q 5 E q := fun E q => (fun h => ev_find_1 h (fun e1 e2 => by cases e1; cases e2; exact ⟨0, 0, 10, 13, 19, rfl, by decide, by decide, by decide, w_1267, nst_72, by decide, Or.inr ⟨dL_fault_13, rfl⟩, fun _ _ hk _ => absurd hk (Nat.not_lt_zero _)⟩) (fun h => ev_find_1 h (fun e1 e2 => by cases e1; cases e2; exact ⟨1, 0, 10, 17, 21, rfl, by decide, by decide, by decide, w_1268, nst_65, by decide, Or.inr ⟨dL_fault_17, rfl⟩, fun k' z hk hz => match k', hk, hz with | 0, _, hz => by cases hz; exact ⟨by decide, "java/lang/IndexOutOfBoundsException", w_1267, nc_1⟩ | k + 1, hk, _ => absurd hk (by omega)⟩) (fun h => by cases h)))
def g_L_fault : Nat → EA := (t_n 10 (t_n 4 (t_n 2 (t_n 1 (t_l 0 (a_aload 1 3)) (t_l 1 (a_push 1 (.int 0)))) (t_n 3 (t_l 2 (a_aload 1 0)) (t_l 3 (a_iload 1 1)))) (t_n 8 (t_n 5 (t_l 4 (a_iload 1 2)) (t_l 5 (a_invH 175 3 (some 11) [("java/lang/IndexOutOfBoundsException", 15, 4), ("java/lang/IllegalArgumentException", 19, 4)]))) (t_n 9 (t_l 8 (a_i (fun x => .long x.toInt64))) (t_l 9 a_lst)))) (t_n 17 (t_n 15 (t_n 13 (t_l 10 (a_goto 21)) (t_l 13 (a_astore 5 2 4))) (t_n 16 (t_l 15 (a_push 1 (.int 1))) (t_l 16 a_iret))) (t_n 20 (t_n 19 (t_l 17 (a_astore 5 2 4)) (t_l 19 (a_push 1 (.int 2)))) (t_n 21 (t_l 20 a_iret) (t_n 22 (t_l 21 (a_push 1 (.int 0))) (t_l 22 a_iret))))))
set_option maxRecDepth 100000 in
theorem k_L_fault (d : Nat) : ∀ pc, ev_Ok cL_fault 5 [(0, 10, 13, 19), (0, 10, 17, 21)] RL lw_g lw_n lw_q vwCl false (ev_CO mt lw_g lw_n lw_q vwCl d) pc (g_L_fault pc) := (ok_t_n (ok_t_n (ok_t_n (ok_t_n (ok_t_l (ok_aload_n dL_fault_0 rfl)) (ok_t_l (ok_iconst dL_fault_1 rfl))) (ok_t_n (ok_t_l (ok_aload_n dL_fault_2 rfl)) (ok_t_l (ok_iload_n dL_fault_3 rfl)))) (ok_t_n (ok_t_n (ok_t_l (ok_iload_n dL_fault_4 rfl)) (ok_t_l (ok_invH (run_V (y := 175) (n := 2) (ci := 11) dL_fault_5 cz_175 gdG cc_175 ci_175 w_1435 cm_175 cs_175 cd_175 cl_175 rfl rfl) hd_L_fault_5))) (ok_t_n (ok_t_l (ok_i2l dL_fault_8)) (ok_t_l (ok_lastore dL_fault_9))))) (ok_t_n (ok_t_n (ok_t_n (ok_t_l (ok_goto dL_fault_10 rfl)) (ok_t_l (ok_astore dL_fault_13))) (ok_t_n (ok_t_l (ok_iconst dL_fault_15 rfl)) (ok_t_l (ok_ireturn dL_fault_16)))) (ok_t_n (ok_t_n (ok_t_l (ok_astore dL_fault_17)) (ok_t_l (ok_iconst dL_fault_19 rfl))) (ok_t_n (ok_t_l (ok_ireturn dL_fault_20)) (ok_t_n (ok_t_l (ok_iconst dL_fault_21 rfl)) (ok_t_l (ok_ireturn dL_fault_22)))))))
theorem dL_wordAt_0 : decode cL_wordAt 0 = .ok (.aload_n 2, 1) := by decide +kernel
theorem dL_wordAt_1 : decode cL_wordAt 1 = .ok (.iconst 0, 1) := by decide +kernel
theorem dL_wordAt_2 : decode cL_wordAt 2 = .ok (.aload_n 0, 1) := by decide +kernel
theorem dL_wordAt_3 : decode cL_wordAt 3 = .ok (.iload_n 1, 1) := by decide +kernel
theorem dL_wordAt_4 : decode cL_wordAt 4 = .ok (.invokevirtual 64, 3) := by decide +kernel
theorem dL_wordAt_7 : decode cL_wordAt 7 = .ok (.i2l, 1) := by decide +kernel
theorem dL_wordAt_8 : decode cL_wordAt 8 = .ok (.lastore, 1) := by decide +kernel
theorem dL_wordAt_9 : decode cL_wordAt 9 = .ok (.goto 6, 3) := by decide +kernel
theorem dL_wordAt_12 : decode cL_wordAt 12 = .ok (.astore_n 3, 1) := by decide +kernel
theorem dL_wordAt_13 : decode cL_wordAt 13 = .ok (.iconst 1, 1) := by decide +kernel
theorem dL_wordAt_14 : decode cL_wordAt 14 = .ok (.ireturn, 1) := by decide +kernel
theorem dL_wordAt_15 : decode cL_wordAt 15 = .ok (.iconst 0, 1) := by decide +kernel
theorem dL_wordAt_16 : decode cL_wordAt 16 = .ok (.ireturn, 1) := by decide +kernel
theorem hd_L_wordAt_4 : ∀ E q, ev_find [("java/lang/IndexOutOfBoundsException", 13, 3)] E = some q → ev_HF cL_wordAt 4 [(0, 9, 12, 19)] RL lw_g lw_n lw_q 4 E q := fun E q => (fun h => ev_find_1 h (fun e1 e2 => by cases e1; cases e2; exact ⟨0, 0, 9, 12, 19, rfl, by decide, by decide, by decide, w_1267, nst_72, by decide, Or.inl ⟨3, rfl, dL_wordAt_12, rfl⟩, fun _ _ hk _ => absurd hk (Nat.not_lt_zero _)⟩) (fun h => by cases h))
def g_L_wordAt : Nat → EA := (t_n 8 (t_n 3 (t_n 1 (t_l 0 (a_aload 1 2)) (t_n 2 (t_l 1 (a_push 1 (.int 0))) (t_l 2 (a_aload 1 0)))) (t_n 4 (t_l 3 (a_iload 1 1)) (t_n 7 (t_l 4 (a_invH 176 2 (some 11) [("java/lang/IndexOutOfBoundsException", 13, 3)])) (t_l 7 (a_i (fun x => .long x.toInt64)))))) (t_n 13 (t_n 9 (t_l 8 a_lst) (t_n 12 (t_l 9 (a_goto 15)) (t_l 12 (a_astore 4 1 3)))) (t_n 15 (t_n 14 (t_l 13 (a_push 1 (.int 1))) (t_l 14 a_iret)) (t_n 16 (t_l 15 (a_push 1 (.int 0))) (t_l 16 a_iret)))))
set_option maxRecDepth 100000 in
theorem k_L_wordAt (d : Nat) : ∀ pc, ev_Ok cL_wordAt 4 [(0, 9, 12, 19)] RL lw_g lw_n lw_q vwCl false (ev_CO mt lw_g lw_n lw_q vwCl d) pc (g_L_wordAt pc) := (ok_t_n (ok_t_n (ok_t_n (ok_t_l (ok_aload_n dL_wordAt_0 rfl)) (ok_t_n (ok_t_l (ok_iconst dL_wordAt_1 rfl)) (ok_t_l (ok_aload_n dL_wordAt_2 rfl)))) (ok_t_n (ok_t_l (ok_iload_n dL_wordAt_3 rfl)) (ok_t_n (ok_t_l (ok_invH (run_V (y := 176) (n := 1) (ci := 11) dL_wordAt_4 cz_176 gdG cc_176 ci_176 w_1439 cm_176 cs_176 cd_176 cl_176 rfl rfl) hd_L_wordAt_4)) (ok_t_l (ok_i2l dL_wordAt_7))))) (ok_t_n (ok_t_n (ok_t_l (ok_lastore dL_wordAt_8)) (ok_t_n (ok_t_l (ok_goto dL_wordAt_9 rfl)) (ok_t_l (ok_astore_n dL_wordAt_12 rfl)))) (ok_t_n (ok_t_n (ok_t_l (ok_iconst dL_wordAt_13 rfl)) (ok_t_l (ok_ireturn dL_wordAt_14))) (ok_t_n (ok_t_l (ok_iconst dL_wordAt_15 rfl)) (ok_t_l (ok_ireturn dL_wordAt_16))))))
theorem dL_publish_0 : decode cL_publish 0 = .ok (.aload_n 2, 1) := by decide +kernel
theorem dL_publish_1 : decode cL_publish 1 = .ok (.iconst 0, 1) := by decide +kernel
theorem dL_publish_2 : decode cL_publish 2 = .ok (.aload_n 0, 1) := by decide +kernel
theorem dL_publish_3 : decode cL_publish 3 = .ok (.iload_n 1, 1) := by decide +kernel
theorem dL_publish_4 : decode cL_publish 4 = .ok (.invokevirtual 68, 3) := by decide +kernel
theorem dL_publish_7 : decode cL_publish 7 = .ok (.i2l, 1) := by decide +kernel
theorem dL_publish_8 : decode cL_publish 8 = .ok (.lastore, 1) := by decide +kernel
theorem dL_publish_9 : decode cL_publish 9 = .ok (.goto 9, 3) := by decide +kernel
theorem dL_publish_12 : decode cL_publish 12 = .ok (.astore_n 3, 1) := by decide +kernel
theorem dL_publish_13 : decode cL_publish 13 = .ok (.iconst 1, 1) := by decide +kernel
theorem dL_publish_14 : decode cL_publish 14 = .ok (.ireturn, 1) := by decide +kernel
theorem dL_publish_15 : decode cL_publish 15 = .ok (.astore_n 3, 1) := by decide +kernel
theorem dL_publish_16 : decode cL_publish 16 = .ok (.iconst 2, 1) := by decide +kernel
theorem dL_publish_17 : decode cL_publish 17 = .ok (.ireturn, 1) := by decide +kernel
theorem dL_publish_18 : decode cL_publish 18 = .ok (.iconst 0, 1) := by decide +kernel
theorem dL_publish_19 : decode cL_publish 19 = .ok (.ireturn, 1) := by decide +kernel
theorem hd_L_publish_4 : ∀ E q, ev_find [("java/lang/IllegalArgumentException", 13, 3), ("java/lang/IllegalStateException", 16, 3)] E = some q → ev_HF cL_publish 4 [(0, 9, 12, 21), (0, 9, 15, 13)] RL lw_g lw_n lw_q 4 E q := fun E q => (fun h => ev_find_1 h (fun e1 e2 => by cases e1; cases e2; exact ⟨0, 0, 9, 12, 21, rfl, by decide, by decide, by decide, w_1268, nst_65, by decide, Or.inl ⟨3, rfl, dL_publish_12, rfl⟩, fun _ _ hk _ => absurd hk (Nat.not_lt_zero _)⟩) (fun h => ev_find_1 h (fun e1 e2 => by cases e1; cases e2; exact ⟨1, 0, 9, 15, 13, rfl, by decide, by decide, by decide, w_1250, nst_73, by decide, Or.inl ⟨3, rfl, dL_publish_15, rfl⟩, fun k' z hk hz => match k', hk, hz with | 0, _, hz => by cases hz; exact ⟨by decide, "java/lang/IllegalArgumentException", w_1268, nc_2⟩ | k + 1, hk, _ => absurd hk (by omega)⟩) (fun h => by cases h)))
def g_L_publish : Nat → EA := (t_n 12 (t_n 4 (t_n 2 (t_n 1 (t_l 0 (a_aload 1 2)) (t_l 1 (a_push 1 (.int 0)))) (t_n 3 (t_l 2 (a_aload 1 0)) (t_l 3 (a_iload 1 1)))) (t_n 8 (t_n 7 (t_l 4 (a_invH 177 2 (some 11) [("java/lang/IllegalArgumentException", 13, 3), ("java/lang/IllegalStateException", 16, 3)])) (t_l 7 (a_i (fun x => .long x.toInt64)))) (t_n 9 (t_l 8 a_lst) (t_l 9 (a_goto 18))))) (t_n 16 (t_n 14 (t_n 13 (t_l 12 (a_astore 4 1 3)) (t_l 13 (a_push 1 (.int 1)))) (t_n 15 (t_l 14 a_iret) (t_l 15 (a_astore 4 1 3)))) (t_n 18 (t_n 17 (t_l 16 (a_push 1 (.int 2))) (t_l 17 a_iret)) (t_n 19 (t_l 18 (a_push 1 (.int 0))) (t_l 19 a_iret)))))
set_option maxRecDepth 100000 in
theorem k_L_publish (d : Nat) : ∀ pc, ev_Ok cL_publish 4 [(0, 9, 12, 21), (0, 9, 15, 13)] RL lw_g lw_n lw_q vwCl false (ev_CO mt lw_g lw_n lw_q vwCl d) pc (g_L_publish pc) := (ok_t_n (ok_t_n (ok_t_n (ok_t_n (ok_t_l (ok_aload_n dL_publish_0 rfl)) (ok_t_l (ok_iconst dL_publish_1 rfl))) (ok_t_n (ok_t_l (ok_aload_n dL_publish_2 rfl)) (ok_t_l (ok_iload_n dL_publish_3 rfl)))) (ok_t_n (ok_t_n (ok_t_l (ok_invH (run_V (y := 177) (n := 1) (ci := 11) dL_publish_4 cz_177 gdG cc_177 ci_177 w_1443 cm_177 cs_177 cd_177 cl_177 rfl rfl) hd_L_publish_4)) (ok_t_l (ok_i2l dL_publish_7))) (ok_t_n (ok_t_l (ok_lastore dL_publish_8)) (ok_t_l (ok_goto dL_publish_9 rfl))))) (ok_t_n (ok_t_n (ok_t_n (ok_t_l (ok_astore_n dL_publish_12 rfl)) (ok_t_l (ok_iconst dL_publish_13 rfl))) (ok_t_n (ok_t_l (ok_ireturn dL_publish_14)) (ok_t_l (ok_astore_n dL_publish_15 rfl)))) (ok_t_n (ok_t_n (ok_t_l (ok_iconst dL_publish_16 rfl)) (ok_t_l (ok_ireturn dL_publish_17))) (ok_t_n (ok_t_l (ok_iconst dL_publish_18 rfl)) (ok_t_l (ok_ireturn dL_publish_19))))))
theorem dL_open_0 : decode cL_open 0 = .ok (.aload_n 3, 1) := by decide +kernel
theorem dL_open_1 : decode cL_open 1 = .ok (.iconst 0, 1) := by decide +kernel
theorem dL_open_2 : decode cL_open 2 = .ok (.aload_n 0, 1) := by decide +kernel
theorem dL_open_3 : decode cL_open 3 = .ok (.iload_n 1, 1) := by decide +kernel
theorem dL_open_4 : decode cL_open 4 = .ok (.iload_n 2, 1) := by decide +kernel
theorem dL_open_5 : decode cL_open 5 = .ok (.invokevirtual 71, 3) := by decide +kernel
theorem dL_open_8 : decode cL_open 8 = .ok (.i2l, 1) := by decide +kernel
theorem dL_open_9 : decode cL_open 9 = .ok (.lastore, 1) := by decide +kernel
theorem dL_open_10 : decode cL_open 10 = .ok (.goto 7, 3) := by decide +kernel
theorem dL_open_13 : decode cL_open 13 = .ok (.astore 4, 2) := by decide +kernel
theorem dL_open_15 : decode cL_open 15 = .ok (.iconst 1, 1) := by decide +kernel
theorem dL_open_16 : decode cL_open 16 = .ok (.ireturn, 1) := by decide +kernel
theorem dL_open_17 : decode cL_open 17 = .ok (.iconst 0, 1) := by decide +kernel
theorem dL_open_18 : decode cL_open 18 = .ok (.ireturn, 1) := by decide +kernel
theorem hd_L_open_5 : ∀ E q, ev_find [("java/lang/IndexOutOfBoundsException", 15, 4)] E = some q → ev_HF cL_open 5 [(0, 10, 13, 19)] RL lw_g lw_n lw_q 5 E q := fun E q => (fun h => ev_find_1 h (fun e1 e2 => by cases e1; cases e2; exact ⟨0, 0, 10, 13, 19, rfl, by decide, by decide, by decide, w_1267, nst_72, by decide, Or.inr ⟨dL_open_13, rfl⟩, fun _ _ hk _ => absurd hk (Nat.not_lt_zero _)⟩) (fun h => by cases h))
def g_L_open : Nat → EA := (t_n 9 (t_n 3 (t_n 1 (t_l 0 (a_aload 1 3)) (t_n 2 (t_l 1 (a_push 1 (.int 0))) (t_l 2 (a_aload 1 0)))) (t_n 5 (t_n 4 (t_l 3 (a_iload 1 1)) (t_l 4 (a_iload 1 2))) (t_n 8 (t_l 5 (a_invH 178 3 (some 11) [("java/lang/IndexOutOfBoundsException", 15, 4)])) (t_l 8 (a_i (fun x => .long x.toInt64)))))) (t_n 15 (t_n 10 (t_l 9 a_lst) (t_n 13 (t_l 10 (a_goto 17)) (t_l 13 (a_astore 5 2 4)))) (t_n 17 (t_n 16 (t_l 15 (a_push 1 (.int 1))) (t_l 16 a_iret)) (t_n 18 (t_l 17 (a_push 1 (.int 0))) (t_l 18 a_iret)))))
set_option maxRecDepth 100000 in
theorem k_L_open (d : Nat) : ∀ pc, ev_Ok cL_open 5 [(0, 10, 13, 19)] RL lw_g lw_n lw_q vwCl false (ev_CO mt lw_g lw_n lw_q vwCl d) pc (g_L_open pc) := (ok_t_n (ok_t_n (ok_t_n (ok_t_l (ok_aload_n dL_open_0 rfl)) (ok_t_n (ok_t_l (ok_iconst dL_open_1 rfl)) (ok_t_l (ok_aload_n dL_open_2 rfl)))) (ok_t_n (ok_t_n (ok_t_l (ok_iload_n dL_open_3 rfl)) (ok_t_l (ok_iload_n dL_open_4 rfl))) (ok_t_n (ok_t_l (ok_invH (run_V (y := 178) (n := 2) (ci := 11) dL_open_5 cz_178 gdG cc_178 ci_178 w_1466 cm_178 cs_178 cd_178 cl_178 rfl rfl) hd_L_open_5)) (ok_t_l (ok_i2l dL_open_8))))) (ok_t_n (ok_t_n (ok_t_l (ok_lastore dL_open_9)) (ok_t_n (ok_t_l (ok_goto dL_open_10 rfl)) (ok_t_l (ok_astore dL_open_13)))) (ok_t_n (ok_t_n (ok_t_l (ok_iconst dL_open_15 rfl)) (ok_t_l (ok_ireturn dL_open_16))) (ok_t_n (ok_t_l (ok_iconst dL_open_17 rfl)) (ok_t_l (ok_ireturn dL_open_18))))))
theorem dL_close_0 : decode cL_close 0 = .ok (.aload_n 2, 1) := by decide +kernel
theorem dL_close_1 : decode cL_close 1 = .ok (.iconst 0, 1) := by decide +kernel
theorem dL_close_2 : decode cL_close 2 = .ok (.aload_n 0, 1) := by decide +kernel
theorem dL_close_3 : decode cL_close 3 = .ok (.iload_n 1, 1) := by decide +kernel
theorem dL_close_4 : decode cL_close 4 = .ok (.invokevirtual 74, 3) := by decide +kernel
theorem dL_close_7 : decode cL_close 7 = .ok (.i2l, 1) := by decide +kernel
theorem dL_close_8 : decode cL_close 8 = .ok (.lastore, 1) := by decide +kernel
theorem dL_close_9 : decode cL_close 9 = .ok (.goto 9, 3) := by decide +kernel
theorem dL_close_12 : decode cL_close 12 = .ok (.astore_n 3, 1) := by decide +kernel
theorem dL_close_13 : decode cL_close 13 = .ok (.iconst 1, 1) := by decide +kernel
theorem dL_close_14 : decode cL_close 14 = .ok (.ireturn, 1) := by decide +kernel
theorem dL_close_15 : decode cL_close 15 = .ok (.astore_n 3, 1) := by decide +kernel
theorem dL_close_16 : decode cL_close 16 = .ok (.iconst 2, 1) := by decide +kernel
theorem dL_close_17 : decode cL_close 17 = .ok (.ireturn, 1) := by decide +kernel
theorem dL_close_18 : decode cL_close 18 = .ok (.iconst 0, 1) := by decide +kernel
theorem dL_close_19 : decode cL_close 19 = .ok (.ireturn, 1) := by decide +kernel
theorem hd_L_close_4 : ∀ E q, ev_find [("java/lang/IndexOutOfBoundsException", 13, 3), ("java/lang/IllegalStateException", 16, 3)] E = some q → ev_HF cL_close 4 [(0, 9, 12, 19), (0, 9, 15, 13)] RL lw_g lw_n lw_q 4 E q := fun E q => (fun h => ev_find_1 h (fun e1 e2 => by cases e1; cases e2; exact ⟨0, 0, 9, 12, 19, rfl, by decide, by decide, by decide, w_1267, nst_72, by decide, Or.inl ⟨3, rfl, dL_close_12, rfl⟩, fun _ _ hk _ => absurd hk (Nat.not_lt_zero _)⟩) (fun h => ev_find_1 h (fun e1 e2 => by cases e1; cases e2; exact ⟨1, 0, 9, 15, 13, rfl, by decide, by decide, by decide, w_1250, nst_73, by decide, Or.inl ⟨3, rfl, dL_close_15, rfl⟩, fun k' z hk hz => match k', hk, hz with | 0, _, hz => by cases hz; exact ⟨by decide, "java/lang/IndexOutOfBoundsException", w_1267, nc_3⟩ | k + 1, hk, _ => absurd hk (by omega)⟩) (fun h => by cases h)))
def g_L_close : Nat → EA := (t_n 12 (t_n 4 (t_n 2 (t_n 1 (t_l 0 (a_aload 1 2)) (t_l 1 (a_push 1 (.int 0)))) (t_n 3 (t_l 2 (a_aload 1 0)) (t_l 3 (a_iload 1 1)))) (t_n 8 (t_n 7 (t_l 4 (a_invH 179 2 (some 11) [("java/lang/IndexOutOfBoundsException", 13, 3), ("java/lang/IllegalStateException", 16, 3)])) (t_l 7 (a_i (fun x => .long x.toInt64)))) (t_n 9 (t_l 8 a_lst) (t_l 9 (a_goto 18))))) (t_n 16 (t_n 14 (t_n 13 (t_l 12 (a_astore 4 1 3)) (t_l 13 (a_push 1 (.int 1)))) (t_n 15 (t_l 14 a_iret) (t_l 15 (a_astore 4 1 3)))) (t_n 18 (t_n 17 (t_l 16 (a_push 1 (.int 2))) (t_l 17 a_iret)) (t_n 19 (t_l 18 (a_push 1 (.int 0))) (t_l 19 a_iret)))))
set_option maxRecDepth 100000 in
theorem k_L_close (d : Nat) : ∀ pc, ev_Ok cL_close 4 [(0, 9, 12, 19), (0, 9, 15, 13)] RL lw_g lw_n lw_q vwCl false (ev_CO mt lw_g lw_n lw_q vwCl d) pc (g_L_close pc) := (ok_t_n (ok_t_n (ok_t_n (ok_t_n (ok_t_l (ok_aload_n dL_close_0 rfl)) (ok_t_l (ok_iconst dL_close_1 rfl))) (ok_t_n (ok_t_l (ok_aload_n dL_close_2 rfl)) (ok_t_l (ok_iload_n dL_close_3 rfl)))) (ok_t_n (ok_t_n (ok_t_l (ok_invH (run_V (y := 179) (n := 1) (ci := 11) dL_close_4 cz_179 gdG cc_179 ci_179 w_1495 cm_179 cs_179 cd_179 cl_179 rfl rfl) hd_L_close_4)) (ok_t_l (ok_i2l dL_close_7))) (ok_t_n (ok_t_l (ok_lastore dL_close_8)) (ok_t_l (ok_goto dL_close_9 rfl))))) (ok_t_n (ok_t_n (ok_t_n (ok_t_l (ok_astore_n dL_close_12 rfl)) (ok_t_l (ok_iconst dL_close_13 rfl))) (ok_t_n (ok_t_l (ok_ireturn dL_close_14)) (ok_t_l (ok_astore_n dL_close_15 rfl)))) (ok_t_n (ok_t_n (ok_t_l (ok_iconst dL_close_16 rfl)) (ok_t_l (ok_ireturn dL_close_17))) (ok_t_n (ok_t_l (ok_iconst dL_close_18 rfl)) (ok_t_l (ok_ireturn dL_close_19))))))
theorem dL_call_0 : decode cL_call 0 = .ok (.aload_n 3, 1) := by decide +kernel
theorem dL_call_1 : decode cL_call 1 = .ok (.iconst 0, 1) := by decide +kernel
theorem dL_call_2 : decode cL_call 2 = .ok (.aload_n 0, 1) := by decide +kernel
theorem dL_call_3 : decode cL_call 3 = .ok (.iload_n 1, 1) := by decide +kernel
theorem dL_call_4 : decode cL_call 4 = .ok (.iload_n 2, 1) := by decide +kernel
theorem dL_call_5 : decode cL_call 5 = .ok (.invokevirtual 77, 3) := by decide +kernel
theorem dL_call_8 : decode cL_call 8 = .ok (.i2l, 1) := by decide +kernel
theorem dL_call_9 : decode cL_call 9 = .ok (.lastore, 1) := by decide +kernel
theorem dL_call_10 : decode cL_call 10 = .ok (.goto 15, 3) := by decide +kernel
theorem dL_call_13 : decode cL_call 13 = .ok (.astore 4, 2) := by decide +kernel
theorem dL_call_15 : decode cL_call 15 = .ok (.iconst 1, 1) := by decide +kernel
theorem dL_call_16 : decode cL_call 16 = .ok (.ireturn, 1) := by decide +kernel
theorem dL_call_17 : decode cL_call 17 = .ok (.astore 4, 2) := by decide +kernel
theorem dL_call_19 : decode cL_call 19 = .ok (.iconst 2, 1) := by decide +kernel
theorem dL_call_20 : decode cL_call 20 = .ok (.ireturn, 1) := by decide +kernel
theorem dL_call_21 : decode cL_call 21 = .ok (.astore 4, 2) := by decide +kernel
theorem dL_call_23 : decode cL_call 23 = .ok (.iconst 3, 1) := by decide +kernel
theorem dL_call_24 : decode cL_call 24 = .ok (.ireturn, 1) := by decide +kernel
theorem dL_call_25 : decode cL_call 25 = .ok (.iconst 0, 1) := by decide +kernel
theorem dL_call_26 : decode cL_call 26 = .ok (.ireturn, 1) := by decide +kernel
theorem hd_L_call_5 : ∀ E q, ev_find [("java/lang/IndexOutOfBoundsException", 15, 4), ("java/lang/IllegalArgumentException", 19, 4), ("java/lang/IllegalStateException", 23, 4)] E = some q → ev_HF cL_call 5 [(0, 10, 13, 19), (0, 10, 17, 21), (0, 10, 21, 13)] RL lw_g lw_n lw_q 5 E q := fun E q => (fun h => ev_find_1 h (fun e1 e2 => by cases e1; cases e2; exact ⟨0, 0, 10, 13, 19, rfl, by decide, by decide, by decide, w_1267, nst_72, by decide, Or.inr ⟨dL_call_13, rfl⟩, fun _ _ hk _ => absurd hk (Nat.not_lt_zero _)⟩) (fun h => ev_find_1 h (fun e1 e2 => by cases e1; cases e2; exact ⟨1, 0, 10, 17, 21, rfl, by decide, by decide, by decide, w_1268, nst_65, by decide, Or.inr ⟨dL_call_17, rfl⟩, fun k' z hk hz => match k', hk, hz with | 0, _, hz => by cases hz; exact ⟨by decide, "java/lang/IndexOutOfBoundsException", w_1267, nc_1⟩ | k + 1, hk, _ => absurd hk (by omega)⟩) (fun h => ev_find_1 h (fun e1 e2 => by cases e1; cases e2; exact ⟨2, 0, 10, 21, 13, rfl, by decide, by decide, by decide, w_1250, nst_73, by decide, Or.inr ⟨dL_call_21, rfl⟩, fun k' z hk hz => match k', hk, hz with | 0, _, hz => by cases hz; exact ⟨by decide, "java/lang/IndexOutOfBoundsException", w_1267, nc_3⟩ | 1, _, hz => by cases hz; exact ⟨by decide, "java/lang/IllegalArgumentException", w_1268, nc_2⟩ | k + 2, hk, _ => absurd hk (by omega)⟩) (fun h => by cases h))))
def g_L_call : Nat → EA := (t_n 15 (t_n 5 (t_n 2 (t_n 1 (t_l 0 (a_aload 1 3)) (t_l 1 (a_push 1 (.int 0)))) (t_n 3 (t_l 2 (a_aload 1 0)) (t_n 4 (t_l 3 (a_iload 1 1)) (t_l 4 (a_iload 1 2))))) (t_n 9 (t_n 8 (t_l 5 (a_invH 180 3 (some 11) [("java/lang/IndexOutOfBoundsException", 15, 4), ("java/lang/IllegalArgumentException", 19, 4), ("java/lang/IllegalStateException", 23, 4)])) (t_l 8 (a_i (fun x => .long x.toInt64)))) (t_n 10 (t_l 9 a_lst) (t_n 13 (t_l 10 (a_goto 25)) (t_l 13 (a_astore 5 2 4)))))) (t_n 21 (t_n 17 (t_n 16 (t_l 15 (a_push 1 (.int 1))) (t_l 16 a_iret)) (t_n 19 (t_l 17 (a_astore 5 2 4)) (t_n 20 (t_l 19 (a_push 1 (.int 2))) (t_l 20 a_iret)))) (t_n 24 (t_n 23 (t_l 21 (a_astore 5 2 4)) (t_l 23 (a_push 1 (.int 3)))) (t_n 25 (t_l 24 a_iret) (t_n 26 (t_l 25 (a_push 1 (.int 0))) (t_l 26 a_iret))))))
set_option maxRecDepth 100000 in
theorem k_L_call (d : Nat) : ∀ pc, ev_Ok cL_call 5 [(0, 10, 13, 19), (0, 10, 17, 21), (0, 10, 21, 13)] RL lw_g lw_n lw_q vwCl false (ev_CO mt lw_g lw_n lw_q vwCl d) pc (g_L_call pc) := (ok_t_n (ok_t_n (ok_t_n (ok_t_n (ok_t_l (ok_aload_n dL_call_0 rfl)) (ok_t_l (ok_iconst dL_call_1 rfl))) (ok_t_n (ok_t_l (ok_aload_n dL_call_2 rfl)) (ok_t_n (ok_t_l (ok_iload_n dL_call_3 rfl)) (ok_t_l (ok_iload_n dL_call_4 rfl))))) (ok_t_n (ok_t_n (ok_t_l (ok_invH (run_V (y := 180) (n := 2) (ci := 11) dL_call_5 cz_180 gdG cc_180 ci_180 w_1515 cm_180 cs_180 cd_180 cl_180 rfl rfl) hd_L_call_5)) (ok_t_l (ok_i2l dL_call_8))) (ok_t_n (ok_t_l (ok_lastore dL_call_9)) (ok_t_n (ok_t_l (ok_goto dL_call_10 rfl)) (ok_t_l (ok_astore dL_call_13)))))) (ok_t_n (ok_t_n (ok_t_n (ok_t_l (ok_iconst dL_call_15 rfl)) (ok_t_l (ok_ireturn dL_call_16))) (ok_t_n (ok_t_l (ok_astore dL_call_17)) (ok_t_n (ok_t_l (ok_iconst dL_call_19 rfl)) (ok_t_l (ok_ireturn dL_call_20))))) (ok_t_n (ok_t_n (ok_t_l (ok_astore dL_call_21)) (ok_t_l (ok_iconst dL_call_23 rfl))) (ok_t_n (ok_t_l (ok_ireturn dL_call_24)) (ok_t_n (ok_t_l (ok_iconst dL_call_25 rfl)) (ok_t_l (ok_ireturn dL_call_26)))))))
theorem dL_ofBinding_0 : decode cL_ofBinding 0 = .ok (.aload 4, 2) := by decide +kernel
theorem dL_ofBinding_2 : decode cL_ofBinding 2 = .ok (.iconst 0, 1) := by decide +kernel
theorem dL_ofBinding_3 : decode cL_ofBinding 3 = .ok (.aload_n 0, 1) := by decide +kernel
theorem dL_ofBinding_4 : decode cL_ofBinding 4 = .ok (.iload_n 1, 1) := by decide +kernel
theorem dL_ofBinding_5 : decode cL_ofBinding 5 = .ok (.iload_n 2, 1) := by decide +kernel
theorem dL_ofBinding_6 : decode cL_ofBinding 6 = .ok (.iload_n 3, 1) := by decide +kernel
theorem dL_ofBinding_7 : decode cL_ofBinding 7 = .ok (.invokevirtual 80, 3) := by decide +kernel
theorem dL_ofBinding_10 : decode cL_ofBinding 10 = .ok (.i2l, 1) := by decide +kernel
theorem dL_ofBinding_11 : decode cL_ofBinding 11 = .ok (.lastore, 1) := by decide +kernel
theorem dL_ofBinding_12 : decode cL_ofBinding 12 = .ok (.goto 11, 3) := by decide +kernel
theorem dL_ofBinding_15 : decode cL_ofBinding 15 = .ok (.astore 5, 2) := by decide +kernel
theorem dL_ofBinding_17 : decode cL_ofBinding 17 = .ok (.iconst 1, 1) := by decide +kernel
theorem dL_ofBinding_18 : decode cL_ofBinding 18 = .ok (.ireturn, 1) := by decide +kernel
theorem dL_ofBinding_19 : decode cL_ofBinding 19 = .ok (.astore 5, 2) := by decide +kernel
theorem dL_ofBinding_21 : decode cL_ofBinding 21 = .ok (.iconst 2, 1) := by decide +kernel
theorem dL_ofBinding_22 : decode cL_ofBinding 22 = .ok (.ireturn, 1) := by decide +kernel
theorem dL_ofBinding_23 : decode cL_ofBinding 23 = .ok (.iconst 0, 1) := by decide +kernel
theorem dL_ofBinding_24 : decode cL_ofBinding 24 = .ok (.ireturn, 1) := by decide +kernel
theorem hd_L_ofBinding_7 : ∀ E q, ev_find [("java/lang/IndexOutOfBoundsException", 17, 5), ("java/lang/IllegalArgumentException", 21, 5)] E = some q → ev_HF cL_ofBinding 6 [(0, 12, 15, 19), (0, 12, 19, 21)] RL lw_g lw_n lw_q 7 E q := fun E q => (fun h => ev_find_1 h (fun e1 e2 => by cases e1; cases e2; exact ⟨0, 0, 12, 15, 19, rfl, by decide, by decide, by decide, w_1267, nst_72, by decide, Or.inr ⟨dL_ofBinding_15, rfl⟩, fun _ _ hk _ => absurd hk (Nat.not_lt_zero _)⟩) (fun h => ev_find_1 h (fun e1 e2 => by cases e1; cases e2; exact ⟨1, 0, 12, 19, 21, rfl, by decide, by decide, by decide, w_1268, nst_65, by decide, Or.inr ⟨dL_ofBinding_19, rfl⟩, fun k' z hk hz => match k', hk, hz with | 0, _, hz => by cases hz; exact ⟨by decide, "java/lang/IndexOutOfBoundsException", w_1267, nc_1⟩ | k + 1, hk, _ => absurd hk (by omega)⟩) (fun h => by cases h)))
def g_L_ofBinding : Nat → EA := (t_n 12 (t_n 5 (t_n 3 (t_n 2 (t_l 0 (a_aload 2 4)) (t_l 2 (a_push 1 (.int 0)))) (t_n 4 (t_l 3 (a_aload 1 0)) (t_l 4 (a_iload 1 1)))) (t_n 7 (t_n 6 (t_l 5 (a_iload 1 2)) (t_l 6 (a_iload 1 3))) (t_n 10 (t_l 7 (a_invH 181 4 (some 11) [("java/lang/IndexOutOfBoundsException", 17, 5), ("java/lang/IllegalArgumentException", 21, 5)])) (t_n 11 (t_l 10 (a_i (fun x => .long x.toInt64))) (t_l 11 a_lst))))) (t_n 19 (t_n 17 (t_n 15 (t_l 12 (a_goto 23)) (t_l 15 (a_astore 6 2 5))) (t_n 18 (t_l 17 (a_push 1 (.int 1))) (t_l 18 a_iret))) (t_n 22 (t_n 21 (t_l 19 (a_astore 6 2 5)) (t_l 21 (a_push 1 (.int 2)))) (t_n 23 (t_l 22 a_iret) (t_n 24 (t_l 23 (a_push 1 (.int 0))) (t_l 24 a_iret))))))
set_option maxRecDepth 100000 in
theorem k_L_ofBinding (d : Nat) : ∀ pc, ev_Ok cL_ofBinding 6 [(0, 12, 15, 19), (0, 12, 19, 21)] RL lw_g lw_n lw_q vwCl false (ev_CO mt lw_g lw_n lw_q vwCl d) pc (g_L_ofBinding pc) := (ok_t_n (ok_t_n (ok_t_n (ok_t_n (ok_t_l (ok_aload dL_ofBinding_0)) (ok_t_l (ok_iconst dL_ofBinding_2 rfl))) (ok_t_n (ok_t_l (ok_aload_n dL_ofBinding_3 rfl)) (ok_t_l (ok_iload_n dL_ofBinding_4 rfl)))) (ok_t_n (ok_t_n (ok_t_l (ok_iload_n dL_ofBinding_5 rfl)) (ok_t_l (ok_iload_n dL_ofBinding_6 rfl))) (ok_t_n (ok_t_l (ok_invH (run_V (y := 181) (n := 3) (ci := 11) dL_ofBinding_7 cz_181 gdG cc_181 ci_181 w_1528 cm_181 cs_181 cd_181 cl_181 rfl rfl) hd_L_ofBinding_7)) (ok_t_n (ok_t_l (ok_i2l dL_ofBinding_10)) (ok_t_l (ok_lastore dL_ofBinding_11)))))) (ok_t_n (ok_t_n (ok_t_n (ok_t_l (ok_goto dL_ofBinding_12 rfl)) (ok_t_l (ok_astore dL_ofBinding_15))) (ok_t_n (ok_t_l (ok_iconst dL_ofBinding_17 rfl)) (ok_t_l (ok_ireturn dL_ofBinding_18)))) (ok_t_n (ok_t_n (ok_t_l (ok_astore dL_ofBinding_19)) (ok_t_l (ok_iconst dL_ofBinding_21 rfl))) (ok_t_n (ok_t_l (ok_ireturn dL_ofBinding_22)) (ok_t_n (ok_t_l (ok_iconst dL_ofBinding_23 rfl)) (ok_t_l (ok_ireturn dL_ofBinding_24)))))))
theorem dL_ofLibrary_0 : decode cL_ofLibrary 0 = .ok (.aload_n 3, 1) := by decide +kernel
theorem dL_ofLibrary_1 : decode cL_ofLibrary 1 = .ok (.iconst 0, 1) := by decide +kernel
theorem dL_ofLibrary_2 : decode cL_ofLibrary 2 = .ok (.aload_n 0, 1) := by decide +kernel
theorem dL_ofLibrary_3 : decode cL_ofLibrary 3 = .ok (.iload_n 1, 1) := by decide +kernel
theorem dL_ofLibrary_4 : decode cL_ofLibrary 4 = .ok (.iload_n 2, 1) := by decide +kernel
theorem dL_ofLibrary_5 : decode cL_ofLibrary 5 = .ok (.invokevirtual 84, 3) := by decide +kernel
theorem dL_ofLibrary_8 : decode cL_ofLibrary 8 = .ok (.i2l, 1) := by decide +kernel
theorem dL_ofLibrary_9 : decode cL_ofLibrary 9 = .ok (.lastore, 1) := by decide +kernel
theorem dL_ofLibrary_10 : decode cL_ofLibrary 10 = .ok (.goto 11, 3) := by decide +kernel
theorem dL_ofLibrary_13 : decode cL_ofLibrary 13 = .ok (.astore 4, 2) := by decide +kernel
theorem dL_ofLibrary_15 : decode cL_ofLibrary 15 = .ok (.iconst 1, 1) := by decide +kernel
theorem dL_ofLibrary_16 : decode cL_ofLibrary 16 = .ok (.ireturn, 1) := by decide +kernel
theorem dL_ofLibrary_17 : decode cL_ofLibrary 17 = .ok (.astore 4, 2) := by decide +kernel
theorem dL_ofLibrary_19 : decode cL_ofLibrary 19 = .ok (.iconst 2, 1) := by decide +kernel
theorem dL_ofLibrary_20 : decode cL_ofLibrary 20 = .ok (.ireturn, 1) := by decide +kernel
theorem dL_ofLibrary_21 : decode cL_ofLibrary 21 = .ok (.iconst 0, 1) := by decide +kernel
theorem dL_ofLibrary_22 : decode cL_ofLibrary 22 = .ok (.ireturn, 1) := by decide +kernel
theorem hd_L_ofLibrary_5 : ∀ E q, ev_find [("java/lang/IndexOutOfBoundsException", 15, 4), ("java/lang/IllegalArgumentException", 19, 4)] E = some q → ev_HF cL_ofLibrary 5 [(0, 10, 13, 19), (0, 10, 17, 21)] RL lw_g lw_n lw_q 5 E q := fun E q => (fun h => ev_find_1 h (fun e1 e2 => by cases e1; cases e2; exact ⟨0, 0, 10, 13, 19, rfl, by decide, by decide, by decide, w_1267, nst_72, by decide, Or.inr ⟨dL_ofLibrary_13, rfl⟩, fun _ _ hk _ => absurd hk (Nat.not_lt_zero _)⟩) (fun h => ev_find_1 h (fun e1 e2 => by cases e1; cases e2; exact ⟨1, 0, 10, 17, 21, rfl, by decide, by decide, by decide, w_1268, nst_65, by decide, Or.inr ⟨dL_ofLibrary_17, rfl⟩, fun k' z hk hz => match k', hk, hz with | 0, _, hz => by cases hz; exact ⟨by decide, "java/lang/IndexOutOfBoundsException", w_1267, nc_1⟩ | k + 1, hk, _ => absurd hk (by omega)⟩) (fun h => by cases h)))
def g_L_ofLibrary : Nat → EA := (t_n 10 (t_n 4 (t_n 2 (t_n 1 (t_l 0 (a_aload 1 3)) (t_l 1 (a_push 1 (.int 0)))) (t_n 3 (t_l 2 (a_aload 1 0)) (t_l 3 (a_iload 1 1)))) (t_n 8 (t_n 5 (t_l 4 (a_iload 1 2)) (t_l 5 (a_invH 182 3 (some 11) [("java/lang/IndexOutOfBoundsException", 15, 4), ("java/lang/IllegalArgumentException", 19, 4)]))) (t_n 9 (t_l 8 (a_i (fun x => .long x.toInt64))) (t_l 9 a_lst)))) (t_n 17 (t_n 15 (t_n 13 (t_l 10 (a_goto 21)) (t_l 13 (a_astore 5 2 4))) (t_n 16 (t_l 15 (a_push 1 (.int 1))) (t_l 16 a_iret))) (t_n 20 (t_n 19 (t_l 17 (a_astore 5 2 4)) (t_l 19 (a_push 1 (.int 2)))) (t_n 21 (t_l 20 a_iret) (t_n 22 (t_l 21 (a_push 1 (.int 0))) (t_l 22 a_iret))))))
set_option maxRecDepth 100000 in
theorem k_L_ofLibrary (d : Nat) : ∀ pc, ev_Ok cL_ofLibrary 5 [(0, 10, 13, 19), (0, 10, 17, 21)] RL lw_g lw_n lw_q vwCl false (ev_CO mt lw_g lw_n lw_q vwCl d) pc (g_L_ofLibrary pc) := (ok_t_n (ok_t_n (ok_t_n (ok_t_n (ok_t_l (ok_aload_n dL_ofLibrary_0 rfl)) (ok_t_l (ok_iconst dL_ofLibrary_1 rfl))) (ok_t_n (ok_t_l (ok_aload_n dL_ofLibrary_2 rfl)) (ok_t_l (ok_iload_n dL_ofLibrary_3 rfl)))) (ok_t_n (ok_t_n (ok_t_l (ok_iload_n dL_ofLibrary_4 rfl)) (ok_t_l (ok_invH (run_V (y := 182) (n := 2) (ci := 11) dL_ofLibrary_5 cz_182 gdG cc_182 ci_182 w_1532 cm_182 cs_182 cd_182 cl_182 rfl rfl) hd_L_ofLibrary_5))) (ok_t_n (ok_t_l (ok_i2l dL_ofLibrary_8)) (ok_t_l (ok_lastore dL_ofLibrary_9))))) (ok_t_n (ok_t_n (ok_t_n (ok_t_l (ok_goto dL_ofLibrary_10 rfl)) (ok_t_l (ok_astore dL_ofLibrary_13))) (ok_t_n (ok_t_l (ok_iconst dL_ofLibrary_15 rfl)) (ok_t_l (ok_ireturn dL_ofLibrary_16)))) (ok_t_n (ok_t_n (ok_t_l (ok_astore dL_ofLibrary_17)) (ok_t_l (ok_iconst dL_ofLibrary_19 rfl))) (ok_t_n (ok_t_l (ok_ireturn dL_ofLibrary_20)) (ok_t_n (ok_t_l (ok_iconst dL_ofLibrary_21 rfl)) (ok_t_l (ok_ireturn dL_ofLibrary_22)))))))
theorem dL_many_0 : decode cL_many 0 = .ok (.aload_n 2, 1) := by decide +kernel
theorem dL_many_1 : decode cL_many 1 = .ok (.iconst 0, 1) := by decide +kernel
theorem dL_many_2 : decode cL_many 2 = .ok (.aload_n 0, 1) := by decide +kernel
theorem dL_many_3 : decode cL_many 3 = .ok (.iload_n 1, 1) := by decide +kernel
theorem dL_many_4 : decode cL_many 4 = .ok (.invokevirtual 87, 3) := by decide +kernel
theorem dL_many_7 : decode cL_many 7 = .ok (.i2l, 1) := by decide +kernel
theorem dL_many_8 : decode cL_many 8 = .ok (.lastore, 1) := by decide +kernel
theorem dL_many_9 : decode cL_many 9 = .ok (.goto 6, 3) := by decide +kernel
theorem dL_many_12 : decode cL_many 12 = .ok (.astore_n 3, 1) := by decide +kernel
theorem dL_many_13 : decode cL_many 13 = .ok (.iconst 1, 1) := by decide +kernel
theorem dL_many_14 : decode cL_many 14 = .ok (.ireturn, 1) := by decide +kernel
theorem dL_many_15 : decode cL_many 15 = .ok (.iconst 0, 1) := by decide +kernel
theorem dL_many_16 : decode cL_many 16 = .ok (.ireturn, 1) := by decide +kernel
theorem hd_L_many_4 : ∀ E q, ev_find [("java/lang/IllegalArgumentException", 13, 3)] E = some q → ev_HF cL_many 4 [(0, 9, 12, 21)] RL lw_g lw_n lw_q 4 E q := fun E q => (fun h => ev_find_1 h (fun e1 e2 => by cases e1; cases e2; exact ⟨0, 0, 9, 12, 21, rfl, by decide, by decide, by decide, w_1268, nst_65, by decide, Or.inl ⟨3, rfl, dL_many_12, rfl⟩, fun _ _ hk _ => absurd hk (Nat.not_lt_zero _)⟩) (fun h => by cases h))
def g_L_many : Nat → EA := (t_n 8 (t_n 3 (t_n 1 (t_l 0 (a_aload 1 2)) (t_n 2 (t_l 1 (a_push 1 (.int 0))) (t_l 2 (a_aload 1 0)))) (t_n 4 (t_l 3 (a_iload 1 1)) (t_n 7 (t_l 4 (a_invH 183 2 (some 11) [("java/lang/IllegalArgumentException", 13, 3)])) (t_l 7 (a_i (fun x => .long x.toInt64)))))) (t_n 13 (t_n 9 (t_l 8 a_lst) (t_n 12 (t_l 9 (a_goto 15)) (t_l 12 (a_astore 4 1 3)))) (t_n 15 (t_n 14 (t_l 13 (a_push 1 (.int 1))) (t_l 14 a_iret)) (t_n 16 (t_l 15 (a_push 1 (.int 0))) (t_l 16 a_iret)))))
set_option maxRecDepth 100000 in
theorem k_L_many (d : Nat) : ∀ pc, ev_Ok cL_many 4 [(0, 9, 12, 21)] RL lw_g lw_n lw_q vwCl false (ev_CO mt lw_g lw_n lw_q vwCl d) pc (g_L_many pc) := (ok_t_n (ok_t_n (ok_t_n (ok_t_l (ok_aload_n dL_many_0 rfl)) (ok_t_n (ok_t_l (ok_iconst dL_many_1 rfl)) (ok_t_l (ok_aload_n dL_many_2 rfl)))) (ok_t_n (ok_t_l (ok_iload_n dL_many_3 rfl)) (ok_t_n (ok_t_l (ok_invH (run_V (y := 183) (n := 1) (ci := 11) dL_many_4 cz_183 gdG cc_183 ci_183 w_1536 cm_183 cs_183 cd_183 cl_183 rfl rfl) hd_L_many_4)) (ok_t_l (ok_i2l dL_many_7))))) (ok_t_n (ok_t_n (ok_t_l (ok_lastore dL_many_8)) (ok_t_n (ok_t_l (ok_goto dL_many_9 rfl)) (ok_t_l (ok_astore_n dL_many_12 rfl)))) (ok_t_n (ok_t_n (ok_t_l (ok_iconst dL_many_13 rfl)) (ok_t_l (ok_ireturn dL_many_14))) (ok_t_n (ok_t_l (ok_iconst dL_many_15 rfl)) (ok_t_l (ok_ireturn dL_many_16))))))
theorem dL_sizeWith_0 : decode cL_sizeWith 0 = .ok (.aload_n 2, 1) := by decide +kernel
theorem dL_sizeWith_1 : decode cL_sizeWith 1 = .ok (.iconst 0, 1) := by decide +kernel
theorem dL_sizeWith_2 : decode cL_sizeWith 2 = .ok (.aload_n 0, 1) := by decide +kernel
theorem dL_sizeWith_3 : decode cL_sizeWith 3 = .ok (.iload_n 1, 1) := by decide +kernel
theorem dL_sizeWith_4 : decode cL_sizeWith 4 = .ok (.invokevirtual 90, 3) := by decide +kernel
theorem dL_sizeWith_7 : decode cL_sizeWith 7 = .ok (.i2l, 1) := by decide +kernel
theorem dL_sizeWith_8 : decode cL_sizeWith 8 = .ok (.lastore, 1) := by decide +kernel
theorem dL_sizeWith_9 : decode cL_sizeWith 9 = .ok (.goto 9, 3) := by decide +kernel
theorem dL_sizeWith_12 : decode cL_sizeWith 12 = .ok (.astore_n 3, 1) := by decide +kernel
theorem dL_sizeWith_13 : decode cL_sizeWith 13 = .ok (.iconst 1, 1) := by decide +kernel
theorem dL_sizeWith_14 : decode cL_sizeWith 14 = .ok (.ireturn, 1) := by decide +kernel
theorem dL_sizeWith_15 : decode cL_sizeWith 15 = .ok (.astore_n 3, 1) := by decide +kernel
theorem dL_sizeWith_16 : decode cL_sizeWith 16 = .ok (.iconst 2, 1) := by decide +kernel
theorem dL_sizeWith_17 : decode cL_sizeWith 17 = .ok (.ireturn, 1) := by decide +kernel
theorem dL_sizeWith_18 : decode cL_sizeWith 18 = .ok (.iconst 0, 1) := by decide +kernel
theorem dL_sizeWith_19 : decode cL_sizeWith 19 = .ok (.ireturn, 1) := by decide +kernel
theorem hd_L_sizeWith_4 : ∀ E q, ev_find [("java/lang/IllegalArgumentException", 13, 3), ("java/lang/IllegalStateException", 16, 3)] E = some q → ev_HF cL_sizeWith 4 [(0, 9, 12, 21), (0, 9, 15, 13)] RL lw_g lw_n lw_q 4 E q := fun E q => (fun h => ev_find_1 h (fun e1 e2 => by cases e1; cases e2; exact ⟨0, 0, 9, 12, 21, rfl, by decide, by decide, by decide, w_1268, nst_65, by decide, Or.inl ⟨3, rfl, dL_sizeWith_12, rfl⟩, fun _ _ hk _ => absurd hk (Nat.not_lt_zero _)⟩) (fun h => ev_find_1 h (fun e1 e2 => by cases e1; cases e2; exact ⟨1, 0, 9, 15, 13, rfl, by decide, by decide, by decide, w_1250, nst_73, by decide, Or.inl ⟨3, rfl, dL_sizeWith_15, rfl⟩, fun k' z hk hz => match k', hk, hz with | 0, _, hz => by cases hz; exact ⟨by decide, "java/lang/IllegalArgumentException", w_1268, nc_2⟩ | k + 1, hk, _ => absurd hk (by omega)⟩) (fun h => by cases h)))
def g_L_sizeWith : Nat → EA := (t_n 12 (t_n 4 (t_n 2 (t_n 1 (t_l 0 (a_aload 1 2)) (t_l 1 (a_push 1 (.int 0)))) (t_n 3 (t_l 2 (a_aload 1 0)) (t_l 3 (a_iload 1 1)))) (t_n 8 (t_n 7 (t_l 4 (a_invH 185 2 (some 11) [("java/lang/IllegalArgumentException", 13, 3), ("java/lang/IllegalStateException", 16, 3)])) (t_l 7 (a_i (fun x => .long x.toInt64)))) (t_n 9 (t_l 8 a_lst) (t_l 9 (a_goto 18))))) (t_n 16 (t_n 14 (t_n 13 (t_l 12 (a_astore 4 1 3)) (t_l 13 (a_push 1 (.int 1)))) (t_n 15 (t_l 14 a_iret) (t_l 15 (a_astore 4 1 3)))) (t_n 18 (t_n 17 (t_l 16 (a_push 1 (.int 2))) (t_l 17 a_iret)) (t_n 19 (t_l 18 (a_push 1 (.int 0))) (t_l 19 a_iret)))))
set_option maxRecDepth 100000 in
theorem k_L_sizeWith (d : Nat) : ∀ pc, ev_Ok cL_sizeWith 4 [(0, 9, 12, 21), (0, 9, 15, 13)] RL lw_g lw_n lw_q vwCl false (ev_CO mt lw_g lw_n lw_q vwCl d) pc (g_L_sizeWith pc) := (ok_t_n (ok_t_n (ok_t_n (ok_t_n (ok_t_l (ok_aload_n dL_sizeWith_0 rfl)) (ok_t_l (ok_iconst dL_sizeWith_1 rfl))) (ok_t_n (ok_t_l (ok_aload_n dL_sizeWith_2 rfl)) (ok_t_l (ok_iload_n dL_sizeWith_3 rfl)))) (ok_t_n (ok_t_n (ok_t_l (ok_invH (run_V (y := 185) (n := 1) (ci := 11) dL_sizeWith_4 cz_185 gdG cc_185 ci_185 w_1540 cm_185 cs_185 cd_185 cl_185 rfl rfl) hd_L_sizeWith_4)) (ok_t_l (ok_i2l dL_sizeWith_7))) (ok_t_n (ok_t_l (ok_lastore dL_sizeWith_8)) (ok_t_l (ok_goto dL_sizeWith_9 rfl))))) (ok_t_n (ok_t_n (ok_t_n (ok_t_l (ok_astore_n dL_sizeWith_12 rfl)) (ok_t_l (ok_iconst dL_sizeWith_13 rfl))) (ok_t_n (ok_t_l (ok_ireturn dL_sizeWith_14)) (ok_t_l (ok_astore_n dL_sizeWith_15 rfl)))) (ok_t_n (ok_t_n (ok_t_l (ok_iconst dL_sizeWith_16 rfl)) (ok_t_l (ok_ireturn dL_sizeWith_17))) (ok_t_n (ok_t_l (ok_iconst dL_sizeWith_18 rfl)) (ok_t_l (ok_ireturn dL_sizeWith_19))))))
theorem dL_faultsWithout_0 : decode cL_faultsWithout 0 = .ok (.aload_n 2, 1) := by decide +kernel
theorem dL_faultsWithout_1 : decode cL_faultsWithout 1 = .ok (.iconst 0, 1) := by decide +kernel
theorem dL_faultsWithout_2 : decode cL_faultsWithout 2 = .ok (.aload_n 0, 1) := by decide +kernel
theorem dL_faultsWithout_3 : decode cL_faultsWithout 3 = .ok (.iload_n 1, 1) := by decide +kernel
theorem dL_faultsWithout_4 : decode cL_faultsWithout 4 = .ok (.invokevirtual 93, 3) := by decide +kernel
theorem dL_faultsWithout_7 : decode cL_faultsWithout 7 = .ok (.i2l, 1) := by decide +kernel
theorem dL_faultsWithout_8 : decode cL_faultsWithout 8 = .ok (.lastore, 1) := by decide +kernel
theorem dL_faultsWithout_9 : decode cL_faultsWithout 9 = .ok (.goto 9, 3) := by decide +kernel
theorem dL_faultsWithout_12 : decode cL_faultsWithout 12 = .ok (.astore_n 3, 1) := by decide +kernel
theorem dL_faultsWithout_13 : decode cL_faultsWithout 13 = .ok (.iconst 1, 1) := by decide +kernel
theorem dL_faultsWithout_14 : decode cL_faultsWithout 14 = .ok (.ireturn, 1) := by decide +kernel
theorem dL_faultsWithout_15 : decode cL_faultsWithout 15 = .ok (.astore_n 3, 1) := by decide +kernel
theorem dL_faultsWithout_16 : decode cL_faultsWithout 16 = .ok (.iconst 2, 1) := by decide +kernel
theorem dL_faultsWithout_17 : decode cL_faultsWithout 17 = .ok (.ireturn, 1) := by decide +kernel
theorem dL_faultsWithout_18 : decode cL_faultsWithout 18 = .ok (.iconst 0, 1) := by decide +kernel
theorem dL_faultsWithout_19 : decode cL_faultsWithout 19 = .ok (.ireturn, 1) := by decide +kernel
theorem hd_L_faultsWithout_4 : ∀ E q, ev_find [("java/lang/IndexOutOfBoundsException", 13, 3), ("java/lang/IllegalStateException", 16, 3)] E = some q → ev_HF cL_faultsWithout 4 [(0, 9, 12, 19), (0, 9, 15, 13)] RL lw_g lw_n lw_q 4 E q := fun E q => (fun h => ev_find_1 h (fun e1 e2 => by cases e1; cases e2; exact ⟨0, 0, 9, 12, 19, rfl, by decide, by decide, by decide, w_1267, nst_72, by decide, Or.inl ⟨3, rfl, dL_faultsWithout_12, rfl⟩, fun _ _ hk _ => absurd hk (Nat.not_lt_zero _)⟩) (fun h => ev_find_1 h (fun e1 e2 => by cases e1; cases e2; exact ⟨1, 0, 9, 15, 13, rfl, by decide, by decide, by decide, w_1250, nst_73, by decide, Or.inl ⟨3, rfl, dL_faultsWithout_15, rfl⟩, fun k' z hk hz => match k', hk, hz with | 0, _, hz => by cases hz; exact ⟨by decide, "java/lang/IndexOutOfBoundsException", w_1267, nc_3⟩ | k + 1, hk, _ => absurd hk (by omega)⟩) (fun h => by cases h)))
def g_L_faultsWithout : Nat → EA := (t_n 12 (t_n 4 (t_n 2 (t_n 1 (t_l 0 (a_aload 1 2)) (t_l 1 (a_push 1 (.int 0)))) (t_n 3 (t_l 2 (a_aload 1 0)) (t_l 3 (a_iload 1 1)))) (t_n 8 (t_n 7 (t_l 4 (a_invH 186 2 (some 11) [("java/lang/IndexOutOfBoundsException", 13, 3), ("java/lang/IllegalStateException", 16, 3)])) (t_l 7 (a_i (fun x => .long x.toInt64)))) (t_n 9 (t_l 8 a_lst) (t_l 9 (a_goto 18))))) (t_n 16 (t_n 14 (t_n 13 (t_l 12 (a_astore 4 1 3)) (t_l 13 (a_push 1 (.int 1)))) (t_n 15 (t_l 14 a_iret) (t_l 15 (a_astore 4 1 3)))) (t_n 18 (t_n 17 (t_l 16 (a_push 1 (.int 2))) (t_l 17 a_iret)) (t_n 19 (t_l 18 (a_push 1 (.int 0))) (t_l 19 a_iret)))))
set_option maxRecDepth 100000 in
theorem k_L_faultsWithout (d : Nat) : ∀ pc, ev_Ok cL_faultsWithout 4 [(0, 9, 12, 19), (0, 9, 15, 13)] RL lw_g lw_n lw_q vwCl false (ev_CO mt lw_g lw_n lw_q vwCl d) pc (g_L_faultsWithout pc) := (ok_t_n (ok_t_n (ok_t_n (ok_t_n (ok_t_l (ok_aload_n dL_faultsWithout_0 rfl)) (ok_t_l (ok_iconst dL_faultsWithout_1 rfl))) (ok_t_n (ok_t_l (ok_aload_n dL_faultsWithout_2 rfl)) (ok_t_l (ok_iload_n dL_faultsWithout_3 rfl)))) (ok_t_n (ok_t_n (ok_t_l (ok_invH (run_V (y := 186) (n := 1) (ci := 11) dL_faultsWithout_4 cz_186 gdG cc_186 ci_186 w_1544 cm_186 cs_186 cd_186 cl_186 rfl rfl) hd_L_faultsWithout_4)) (ok_t_l (ok_i2l dL_faultsWithout_7))) (ok_t_n (ok_t_l (ok_lastore dL_faultsWithout_8)) (ok_t_l (ok_goto dL_faultsWithout_9 rfl))))) (ok_t_n (ok_t_n (ok_t_n (ok_t_l (ok_astore_n dL_faultsWithout_12 rfl)) (ok_t_l (ok_iconst dL_faultsWithout_13 rfl))) (ok_t_n (ok_t_l (ok_ireturn dL_faultsWithout_14)) (ok_t_l (ok_astore_n dL_faultsWithout_15 rfl)))) (ok_t_n (ok_t_n (ok_t_l (ok_iconst dL_faultsWithout_16 rfl)) (ok_t_l (ok_ireturn dL_faultsWithout_17))) (ok_t_n (ok_t_l (ok_iconst dL_faultsWithout_18 rfl)) (ok_t_l (ok_ireturn dL_faultsWithout_19))))))
theorem dL_goes_0 : decode cL_goes 0 = .ok (.aload_n 2, 1) := by decide +kernel
theorem dL_goes_1 : decode cL_goes 1 = .ok (.iconst 0, 1) := by decide +kernel
theorem dL_goes_2 : decode cL_goes 2 = .ok (.aload_n 0, 1) := by decide +kernel
theorem dL_goes_3 : decode cL_goes 3 = .ok (.iload_n 1, 1) := by decide +kernel
theorem dL_goes_4 : decode cL_goes 4 = .ok (.invokevirtual 96, 3) := by decide +kernel
theorem dL_goes_7 : decode cL_goes 7 = .ok (.i2l, 1) := by decide +kernel
theorem dL_goes_8 : decode cL_goes 8 = .ok (.lastore, 1) := by decide +kernel
theorem dL_goes_9 : decode cL_goes 9 = .ok (.goto 6, 3) := by decide +kernel
theorem dL_goes_12 : decode cL_goes 12 = .ok (.astore_n 3, 1) := by decide +kernel
theorem dL_goes_13 : decode cL_goes 13 = .ok (.iconst 1, 1) := by decide +kernel
theorem dL_goes_14 : decode cL_goes 14 = .ok (.ireturn, 1) := by decide +kernel
theorem dL_goes_15 : decode cL_goes 15 = .ok (.iconst 0, 1) := by decide +kernel
theorem dL_goes_16 : decode cL_goes 16 = .ok (.ireturn, 1) := by decide +kernel
theorem hd_L_goes_4 : ∀ E q, ev_find [("java/lang/IndexOutOfBoundsException", 13, 3)] E = some q → ev_HF cL_goes 4 [(0, 9, 12, 19)] RL lw_g lw_n lw_q 4 E q := fun E q => (fun h => ev_find_1 h (fun e1 e2 => by cases e1; cases e2; exact ⟨0, 0, 9, 12, 19, rfl, by decide, by decide, by decide, w_1267, nst_72, by decide, Or.inl ⟨3, rfl, dL_goes_12, rfl⟩, fun _ _ hk _ => absurd hk (Nat.not_lt_zero _)⟩) (fun h => by cases h))
def g_L_goes : Nat → EA := (t_n 8 (t_n 3 (t_n 1 (t_l 0 (a_aload 1 2)) (t_n 2 (t_l 1 (a_push 1 (.int 0))) (t_l 2 (a_aload 1 0)))) (t_n 4 (t_l 3 (a_iload 1 1)) (t_n 7 (t_l 4 (a_invH 187 2 (some 11) [("java/lang/IndexOutOfBoundsException", 13, 3)])) (t_l 7 (a_i (fun x => .long x.toInt64)))))) (t_n 13 (t_n 9 (t_l 8 a_lst) (t_n 12 (t_l 9 (a_goto 15)) (t_l 12 (a_astore 4 1 3)))) (t_n 15 (t_n 14 (t_l 13 (a_push 1 (.int 1))) (t_l 14 a_iret)) (t_n 16 (t_l 15 (a_push 1 (.int 0))) (t_l 16 a_iret)))))
set_option maxRecDepth 100000 in
theorem k_L_goes (d : Nat) : ∀ pc, ev_Ok cL_goes 4 [(0, 9, 12, 19)] RL lw_g lw_n lw_q vwCl false (ev_CO mt lw_g lw_n lw_q vwCl d) pc (g_L_goes pc) := (ok_t_n (ok_t_n (ok_t_n (ok_t_l (ok_aload_n dL_goes_0 rfl)) (ok_t_n (ok_t_l (ok_iconst dL_goes_1 rfl)) (ok_t_l (ok_aload_n dL_goes_2 rfl)))) (ok_t_n (ok_t_l (ok_iload_n dL_goes_3 rfl)) (ok_t_n (ok_t_l (ok_invH (run_V (y := 187) (n := 1) (ci := 11) dL_goes_4 cz_187 gdG cc_187 ci_187 w_1548 cm_187 cs_187 cd_187 cl_187 rfl rfl) hd_L_goes_4)) (ok_t_l (ok_i2l dL_goes_7))))) (ok_t_n (ok_t_n (ok_t_l (ok_lastore dL_goes_8)) (ok_t_n (ok_t_l (ok_goto dL_goes_9 rfl)) (ok_t_l (ok_astore_n dL_goes_12 rfl)))) (ok_t_n (ok_t_n (ok_t_l (ok_iconst dL_goes_13 rfl)) (ok_t_l (ok_ireturn dL_goes_14))) (ok_t_n (ok_t_l (ok_iconst dL_goes_15 rfl)) (ok_t_l (ok_ireturn dL_goes_16))))))
theorem dL_wouldBind_0 : decode cL_wouldBind 0 = .ok (.aload_n 3, 1) := by decide +kernel
theorem dL_wouldBind_1 : decode cL_wouldBind 1 = .ok (.iconst 0, 1) := by decide +kernel
theorem dL_wouldBind_2 : decode cL_wouldBind 2 = .ok (.aload_n 0, 1) := by decide +kernel
theorem dL_wouldBind_3 : decode cL_wouldBind 3 = .ok (.iload_n 1, 1) := by decide +kernel
theorem dL_wouldBind_4 : decode cL_wouldBind 4 = .ok (.iload_n 2, 1) := by decide +kernel
theorem dL_wouldBind_5 : decode cL_wouldBind 5 = .ok (.invokevirtual 99, 3) := by decide +kernel
theorem dL_wouldBind_8 : decode cL_wouldBind 8 = .ok (.i2l, 1) := by decide +kernel
theorem dL_wouldBind_9 : decode cL_wouldBind 9 = .ok (.lastore, 1) := by decide +kernel
theorem dL_wouldBind_10 : decode cL_wouldBind 10 = .ok (.goto 11, 3) := by decide +kernel
theorem dL_wouldBind_13 : decode cL_wouldBind 13 = .ok (.astore 4, 2) := by decide +kernel
theorem dL_wouldBind_15 : decode cL_wouldBind 15 = .ok (.iconst 1, 1) := by decide +kernel
theorem dL_wouldBind_16 : decode cL_wouldBind 16 = .ok (.ireturn, 1) := by decide +kernel
theorem dL_wouldBind_17 : decode cL_wouldBind 17 = .ok (.astore 4, 2) := by decide +kernel
theorem dL_wouldBind_19 : decode cL_wouldBind 19 = .ok (.iconst 2, 1) := by decide +kernel
theorem dL_wouldBind_20 : decode cL_wouldBind 20 = .ok (.ireturn, 1) := by decide +kernel
theorem dL_wouldBind_21 : decode cL_wouldBind 21 = .ok (.iconst 0, 1) := by decide +kernel
theorem dL_wouldBind_22 : decode cL_wouldBind 22 = .ok (.ireturn, 1) := by decide +kernel
theorem hd_L_wouldBind_5 : ∀ E q, ev_find [("java/lang/IndexOutOfBoundsException", 15, 4), ("java/lang/IllegalArgumentException", 19, 4)] E = some q → ev_HF cL_wouldBind 5 [(0, 10, 13, 19), (0, 10, 17, 21)] RL lw_g lw_n lw_q 5 E q := fun E q => (fun h => ev_find_1 h (fun e1 e2 => by cases e1; cases e2; exact ⟨0, 0, 10, 13, 19, rfl, by decide, by decide, by decide, w_1267, nst_72, by decide, Or.inr ⟨dL_wouldBind_13, rfl⟩, fun _ _ hk _ => absurd hk (Nat.not_lt_zero _)⟩) (fun h => ev_find_1 h (fun e1 e2 => by cases e1; cases e2; exact ⟨1, 0, 10, 17, 21, rfl, by decide, by decide, by decide, w_1268, nst_65, by decide, Or.inr ⟨dL_wouldBind_17, rfl⟩, fun k' z hk hz => match k', hk, hz with | 0, _, hz => by cases hz; exact ⟨by decide, "java/lang/IndexOutOfBoundsException", w_1267, nc_1⟩ | k + 1, hk, _ => absurd hk (by omega)⟩) (fun h => by cases h)))
def g_L_wouldBind : Nat → EA := (t_n 10 (t_n 4 (t_n 2 (t_n 1 (t_l 0 (a_aload 1 3)) (t_l 1 (a_push 1 (.int 0)))) (t_n 3 (t_l 2 (a_aload 1 0)) (t_l 3 (a_iload 1 1)))) (t_n 8 (t_n 5 (t_l 4 (a_iload 1 2)) (t_l 5 (a_invH 188 3 (some 11) [("java/lang/IndexOutOfBoundsException", 15, 4), ("java/lang/IllegalArgumentException", 19, 4)]))) (t_n 9 (t_l 8 (a_i (fun x => .long x.toInt64))) (t_l 9 a_lst)))) (t_n 17 (t_n 15 (t_n 13 (t_l 10 (a_goto 21)) (t_l 13 (a_astore 5 2 4))) (t_n 16 (t_l 15 (a_push 1 (.int 1))) (t_l 16 a_iret))) (t_n 20 (t_n 19 (t_l 17 (a_astore 5 2 4)) (t_l 19 (a_push 1 (.int 2)))) (t_n 21 (t_l 20 a_iret) (t_n 22 (t_l 21 (a_push 1 (.int 0))) (t_l 22 a_iret))))))
set_option maxRecDepth 100000 in
theorem k_L_wouldBind (d : Nat) : ∀ pc, ev_Ok cL_wouldBind 5 [(0, 10, 13, 19), (0, 10, 17, 21)] RL lw_g lw_n lw_q vwCl false (ev_CO mt lw_g lw_n lw_q vwCl d) pc (g_L_wouldBind pc) := (ok_t_n (ok_t_n (ok_t_n (ok_t_n (ok_t_l (ok_aload_n dL_wouldBind_0 rfl)) (ok_t_l (ok_iconst dL_wouldBind_1 rfl))) (ok_t_n (ok_t_l (ok_aload_n dL_wouldBind_2 rfl)) (ok_t_l (ok_iload_n dL_wouldBind_3 rfl)))) (ok_t_n (ok_t_n (ok_t_l (ok_iload_n dL_wouldBind_4 rfl)) (ok_t_l (ok_invH (run_V (y := 188) (n := 2) (ci := 11) dL_wouldBind_5 cz_188 gdG cc_188 ci_188 w_1552 cm_188 cs_188 cd_188 cl_188 rfl rfl) hd_L_wouldBind_5))) (ok_t_n (ok_t_l (ok_i2l dL_wouldBind_8)) (ok_t_l (ok_lastore dL_wouldBind_9))))) (ok_t_n (ok_t_n (ok_t_n (ok_t_l (ok_goto dL_wouldBind_10 rfl)) (ok_t_l (ok_astore dL_wouldBind_13))) (ok_t_n (ok_t_l (ok_iconst dL_wouldBind_15 rfl)) (ok_t_l (ok_ireturn dL_wouldBind_16)))) (ok_t_n (ok_t_n (ok_t_l (ok_astore dL_wouldBind_17)) (ok_t_l (ok_iconst dL_wouldBind_19 rfl))) (ok_t_n (ok_t_l (ok_ireturn dL_wouldBind_20)) (ok_t_n (ok_t_l (ok_iconst dL_wouldBind_21 rfl)) (ok_t_l (ok_ireturn dL_wouldBind_22)))))))
